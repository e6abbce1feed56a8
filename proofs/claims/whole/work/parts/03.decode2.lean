theorem dX8_count_85 : decode cX8_count 85 = .ok (.getfield 26, 3) := by decide +kernel
theorem dX8_count_88 : decode cX8_count 88 = .ok (.getfield 124, 3) := by decide +kernel
theorem dX8_count_91 : decode cX8_count 91 = .ok (.invokestatic 225, 3) := by decide +kernel
theorem dX8_count_94 : decode cX8_count 94 = .ok (.ireturn, 1) := by decide +kernel
theorem dX8_count_95 : decode cX8_count 95 = .ok (.aload_n 0, 1) := by decide +kernel
theorem dX8_count_96 : decode cX8_count 96 = .ok (.getfield 26, 3) := by decide +kernel
theorem dX8_count_99 : decode cX8_count 99 = .ok (.getfield 79, 3) := by decide +kernel
theorem dX8_count_102 : decode cX8_count 102 = .ok (.invokestatic 225, 3) := by decide +kernel
theorem dX8_count_105 : decode cX8_count 105 = .ok (.ireturn, 1) := by decide +kernel
theorem dX8_count_106 : decode cX8_count 106 = .ok (.aload_n 0, 1) := by decide +kernel
theorem dX8_count_107 : decode cX8_count 107 = .ok (.getfield 26, 3) := by decide +kernel
theorem dX8_count_110 : decode cX8_count 110 = .ok (.getfield 159, 3) := by decide +kernel
theorem dX8_count_113 : decode cX8_count 113 = .ok (.ireturn, 1) := by decide +kernel
theorem dX8_count_114 : decode cX8_count 114 = .ok (.aload_n 0, 1) := by decide +kernel
theorem dX8_count_115 : decode cX8_count 115 = .ok (.getfield 26, 3) := by decide +kernel
theorem dX8_count_118 : decode cX8_count 118 = .ok (.getfield 150, 3) := by decide +kernel
theorem dX8_count_121 : decode cX8_count 121 = .ok (.invokestatic 225, 3) := by decide +kernel
theorem dX8_count_124 : decode cX8_count 124 = .ok (.ireturn, 1) := by decide +kernel
theorem dX8_count_125 : decode cX8_count 125 = .ok (.aload_n 0, 1) := by decide +kernel
theorem dX8_count_126 : decode cX8_count 126 = .ok (.getfield 26, 3) := by decide +kernel
theorem dX8_count_129 : decode cX8_count 129 = .ok (.getfield 153, 3) := by decide +kernel
theorem dX8_count_132 : decode cX8_count 132 = .ok (.invokestatic 225, 3) := by decide +kernel
theorem dX8_count_135 : decode cX8_count 135 = .ok (.ireturn, 1) := by decide +kernel
theorem dX8_count_136 : decode cX8_count 136 = .ok (.aload_n 0, 1) := by decide +kernel
theorem dX8_count_137 : decode cX8_count 137 = .ok (.invokevirtual 229, 3) := by decide +kernel
theorem dX8_count_140 : decode cX8_count 140 = .ok (.ireturn, 1) := by decide +kernel
theorem dX8_count_141 : decode cX8_count 141 = .ok (.aload_n 0, 1) := by decide +kernel
theorem dX8_count_142 : decode cX8_count 142 = .ok (.getfield 26, 3) := by decide +kernel
theorem dX8_count_145 : decode cX8_count 145 = .ok (.getfield 206, 3) := by decide +kernel
theorem dX8_count_148 : decode cX8_count 148 = .ok (.ireturn, 1) := by decide +kernel
theorem dX8_count_149 : decode cX8_count 149 = .ok (.aload_n 0, 1) := by decide +kernel
theorem dX8_count_150 : decode cX8_count 150 = .ok (.getfield 10, 3) := by decide +kernel
theorem dX8_count_153 : decode cX8_count 153 = .ok (.getfield 50, 3) := by decide +kernel
theorem dX8_count_156 : decode cX8_count 156 = .ok (.ireturn, 1) := by decide +kernel
theorem dX8_count_157 : decode cX8_count 157 = .ok (.aload_n 0, 1) := by decide +kernel
theorem dX8_count_158 : decode cX8_count 158 = .ok (.getfield 97, 3) := by decide +kernel
theorem dX8_count_161 : decode cX8_count 161 = .ok (.ireturn, 1) := by decide +kernel
theorem dX8_count_162 : decode cX8_count 162 = .ok (.aload_n 0, 1) := by decide +kernel
theorem dX8_count_163 : decode cX8_count 163 = .ok (.getfield 194, 3) := by decide +kernel
theorem dX8_count_166 : decode cX8_count 166 = .ok (.ireturn, 1) := by decide +kernel
theorem dX8_count_167 : decode cX8_count 167 = .ok (.bipush (-102), 2) := by decide +kernel
theorem dX8_count_169 : decode cX8_count 169 = .ok (.ireturn, 1) := by decide +kernel
theorem dX8_digest_0 : decode cX8_digest 0 = .ok (.ldc2_w 232, 3) := by decide +kernel
theorem dX8_digest_3 : decode cX8_digest 3 = .ok (.lstore_n 1, 1) := by decide +kernel
theorem dX8_digest_4 : decode cX8_digest 4 = .ok (.iconst 0, 1) := by decide +kernel
theorem dX8_digest_5 : decode cX8_digest 5 = .ok (.istore_n 3, 1) := by decide +kernel
theorem dX8_digest_6 : decode cX8_digest 6 = .ok (.iload_n 3, 1) := by decide +kernel
theorem dX8_digest_7 : decode cX8_digest 7 = .ok (.aload_n 0, 1) := by decide +kernel
theorem dX8_digest_8 : decode cX8_digest 8 = .ok (.getfield 19, 3) := by decide +kernel
theorem dX8_digest_11 : decode cX8_digest 11 = .ok (.getfield 68, 3) := by decide +kernel
theorem dX8_digest_14 : decode cX8_digest 14 = .ok (.if_icmp .ge 55, 3) := by decide +kernel
theorem dX8_digest_17 : decode cX8_digest 17 = .ok (.getstatic 234, 3) := by decide +kernel
theorem dX8_digest_20 : decode cX8_digest 20 = .ok (.astore 4, 2) := by decide +kernel
theorem dX8_digest_22 : decode cX8_digest 22 = .ok (.aload 4, 2) := by decide +kernel
theorem dX8_digest_24 : decode cX8_digest 24 = .ok (.arraylength, 1) := by decide +kernel
theorem dX8_digest_25 : decode cX8_digest 25 = .ok (.istore 5, 2) := by decide +kernel
theorem dX8_digest_27 : decode cX8_digest 27 = .ok (.iconst 0, 1) := by decide +kernel
theorem dX8_digest_28 : decode cX8_digest 28 = .ok (.istore 6, 2) := by decide +kernel
theorem dX8_digest_30 : decode cX8_digest 30 = .ok (.iload 6, 2) := by decide +kernel
theorem dX8_digest_32 : decode cX8_digest 32 = .ok (.iload 5, 2) := by decide +kernel
theorem dX8_digest_34 : decode cX8_digest 34 = .ok (.if_icmp .ge 29, 3) := by decide +kernel
theorem dX8_digest_37 : decode cX8_digest 37 = .ok (.aload 4, 2) := by decide +kernel
theorem dX8_digest_39 : decode cX8_digest 39 = .ok (.iload 6, 2) := by decide +kernel
theorem dX8_digest_41 : decode cX8_digest 41 = .ok (.iaload, 1) := by decide +kernel
theorem dX8_digest_42 : decode cX8_digest 42 = .ok (.istore 7, 2) := by decide +kernel
theorem dX8_digest_44 : decode cX8_digest 44 = .ok (.lload_n 1, 1) := by decide +kernel
theorem dX8_digest_45 : decode cX8_digest 45 = .ok (.aload_n 0, 1) := by decide +kernel
theorem dX8_digest_46 : decode cX8_digest 46 = .ok (.iload_n 3, 1) := by decide +kernel
theorem dX8_digest_47 : decode cX8_digest 47 = .ok (.iload 7, 2) := by decide +kernel
theorem dX8_digest_49 : decode cX8_digest 49 = .ok (.invokevirtual 237, 3) := by decide +kernel
theorem dX8_digest_52 : decode cX8_digest 52 = .ok (.i2l, 1) := by decide +kernel
theorem dX8_digest_53 : decode cX8_digest 53 = .ok (.invokestatic 240, 3) := by decide +kernel
theorem dX8_digest_56 : decode cX8_digest 56 = .ok (.lstore_n 1, 1) := by decide +kernel
theorem dX8_digest_57 : decode cX8_digest 57 = .ok (.iinc 6 1, 3) := by decide +kernel
theorem dX8_digest_60 : decode cX8_digest 60 = .ok (.goto (-30), 3) := by decide +kernel
theorem dX8_digest_63 : decode cX8_digest 63 = .ok (.iinc 3 1, 3) := by decide +kernel
theorem dX8_digest_66 : decode cX8_digest 66 = .ok (.goto (-60), 3) := by decide +kernel
theorem dX8_digest_69 : decode cX8_digest 69 = .ok (.aload_n 0, 1) := by decide +kernel
theorem dX8_digest_70 : decode cX8_digest 70 = .ok (.getfield 19, 3) := by decide +kernel
theorem dX8_digest_73 : decode cX8_digest 73 = .ok (.getfield 68, 3) := by decide +kernel
theorem dX8_digest_76 : decode cX8_digest 76 = .ok (.ifCond .le 45, 3) := by decide +kernel
theorem dX8_digest_79 : decode cX8_digest 79 = .ok (.iconst 0, 1) := by decide +kernel
theorem dX8_digest_80 : decode cX8_digest 80 = .ok (.istore_n 3, 1) := by decide +kernel
theorem dX8_digest_81 : decode cX8_digest 81 = .ok (.iload_n 3, 1) := by decide +kernel
theorem dX8_digest_82 : decode cX8_digest 82 = .ok (.iconst 3, 1) := by decide +kernel
theorem dX8_digest_83 : decode cX8_digest 83 = .ok (.if_icmp .ge 16, 3) := by decide +kernel
theorem dX8_digest_86 : decode cX8_digest 86 = .ok (.aload_n 0, 1) := by decide +kernel
theorem dX8_digest_87 : decode cX8_digest 87 = .ok (.lload_n 1, 1) := by decide +kernel
theorem dX8_digest_88 : decode cX8_digest 88 = .ok (.iload_n 3, 1) := by decide +kernel
theorem dX8_digest_89 : decode cX8_digest 89 = .ok (.invokevirtual 244, 3) := by decide +kernel
theorem dX8_digest_92 : decode cX8_digest 92 = .ok (.lstore_n 1, 1) := by decide +kernel
theorem dX8_digest_93 : decode cX8_digest 93 = .ok (.iinc 3 1, 3) := by decide +kernel
theorem dX8_digest_96 : decode cX8_digest 96 = .ok (.goto (-15), 3) := by decide +kernel
theorem dX8_digest_99 : decode cX8_digest 99 = .ok (.lload_n 1, 1) := by decide +kernel
theorem dX8_digest_100 : decode cX8_digest 100 = .ok (.aload_n 0, 1) := by decide +kernel
theorem dX8_digest_101 : decode cX8_digest 101 = .ok (.iconst 0, 1) := by decide +kernel
theorem dX8_digest_102 : decode cX8_digest 102 = .ok (.invokevirtual 248, 3) := by decide +kernel
theorem dX8_digest_105 : decode cX8_digest 105 = .ok (.i2l, 1) := by decide +kernel
theorem dX8_digest_106 : decode cX8_digest 106 = .ok (.invokestatic 240, 3) := by decide +kernel
theorem dX8_digest_109 : decode cX8_digest 109 = .ok (.lstore_n 1, 1) := by decide +kernel
theorem dX8_digest_110 : decode cX8_digest 110 = .ok (.lload_n 1, 1) := by decide +kernel
theorem dX8_digest_111 : decode cX8_digest 111 = .ok (.aload_n 0, 1) := by decide +kernel
theorem dX8_digest_112 : decode cX8_digest 112 = .ok (.iconst 1, 1) := by decide +kernel
theorem dX8_digest_113 : decode cX8_digest 113 = .ok (.invokevirtual 248, 3) := by decide +kernel
theorem dX8_digest_116 : decode cX8_digest 116 = .ok (.i2l, 1) := by decide +kernel
theorem dX8_digest_117 : decode cX8_digest 117 = .ok (.invokestatic 240, 3) := by decide +kernel
theorem dX8_digest_120 : decode cX8_digest 120 = .ok (.lstore_n 1, 1) := by decide +kernel
theorem dX8_digest_121 : decode cX8_digest 121 = .ok (.iconst 0, 1) := by decide +kernel
theorem dX8_digest_122 : decode cX8_digest 122 = .ok (.istore_n 3, 1) := by decide +kernel
theorem dX8_digest_123 : decode cX8_digest 123 = .ok (.iload_n 3, 1) := by decide +kernel
theorem dX8_digest_124 : decode cX8_digest 124 = .ok (.aload_n 0, 1) := by decide +kernel
theorem dX8_digest_125 : decode cX8_digest 125 = .ok (.getfield 10, 3) := by decide +kernel
theorem dX8_digest_128 : decode cX8_digest 128 = .ok (.getfield 50, 3) := by decide +kernel
theorem dX8_digest_131 : decode cX8_digest 131 = .ok (.if_icmp .ge 24, 3) := by decide +kernel
theorem dX8_digest_134 : decode cX8_digest 134 = .ok (.lload_n 1, 1) := by decide +kernel
theorem dX8_digest_135 : decode cX8_digest 135 = .ok (.aload_n 0, 1) := by decide +kernel
theorem dX8_digest_136 : decode cX8_digest 136 = .ok (.getfield 10, 3) := by decide +kernel
theorem dX8_digest_139 : decode cX8_digest 139 = .ok (.getfield 54, 3) := by decide +kernel
theorem dX8_digest_142 : decode cX8_digest 142 = .ok (.iload_n 3, 1) := by decide +kernel
theorem dX8_digest_143 : decode cX8_digest 143 = .ok (.iaload, 1) := by decide +kernel
theorem dX8_digest_144 : decode cX8_digest 144 = .ok (.i2l, 1) := by decide +kernel
theorem dX8_digest_145 : decode cX8_digest 145 = .ok (.invokestatic 240, 3) := by decide +kernel
theorem dX8_digest_148 : decode cX8_digest 148 = .ok (.lstore_n 1, 1) := by decide +kernel
theorem dX8_digest_149 : decode cX8_digest 149 = .ok (.iinc 3 1, 3) := by decide +kernel
theorem dX8_digest_152 : decode cX8_digest 152 = .ok (.goto (-29), 3) := by decide +kernel
theorem dX8_digest_155 : decode cX8_digest 155 = .ok (.iconst 0, 1) := by decide +kernel
theorem dX8_digest_156 : decode cX8_digest 156 = .ok (.istore_n 3, 1) := by decide +kernel
theorem dX8_digest_157 : decode cX8_digest 157 = .ok (.iload_n 3, 1) := by decide +kernel
theorem dX8_digest_158 : decode cX8_digest 158 = .ok (.bipush 11, 2) := by decide +kernel
theorem dX8_digest_160 : decode cX8_digest 160 = .ok (.if_icmp .gt 20, 3) := by decide +kernel
theorem dX8_digest_163 : decode cX8_digest 163 = .ok (.lload_n 1, 1) := by decide +kernel
theorem dX8_digest_164 : decode cX8_digest 164 = .ok (.aload_n 0, 1) := by decide +kernel
theorem dX8_digest_165 : decode cX8_digest 165 = .ok (.iload_n 3, 1) := by decide +kernel
theorem dX8_digest_166 : decode cX8_digest 166 = .ok (.invokevirtual 251, 3) := by decide +kernel
theorem dX8_digest_169 : decode cX8_digest 169 = .ok (.i2l, 1) := by decide +kernel
theorem dX8_digest_170 : decode cX8_digest 170 = .ok (.invokestatic 240, 3) := by decide +kernel
theorem dX8_digest_173 : decode cX8_digest 173 = .ok (.lstore_n 1, 1) := by decide +kernel
theorem dX8_digest_174 : decode cX8_digest 174 = .ok (.iinc 3 1, 3) := by decide +kernel
theorem dX8_digest_177 : decode cX8_digest 177 = .ok (.goto (-20), 3) := by decide +kernel
theorem dX8_digest_180 : decode cX8_digest 180 = .ok (.lload_n 1, 1) := by decide +kernel
theorem dX8_digest_181 : decode cX8_digest 181 = .ok (.lreturn, 1) := by decide +kernel
theorem dX8_mixedQuestion_0 : decode cX8_mixedQuestion 0 = .ok (.lload_n 1, 1) := by decide +kernel
theorem dX8_mixedQuestion_1 : decode cX8_mixedQuestion 1 = .ok (.lstore 4, 2) := by decide +kernel
theorem dX8_mixedQuestion_3 : decode cX8_mixedQuestion 3 = .ok (.iconst 0, 1) := by decide +kernel
theorem dX8_mixedQuestion_4 : decode cX8_mixedQuestion 4 = .ok (.istore 6, 2) := by decide +kernel
theorem dX8_mixedQuestion_6 : decode cX8_mixedQuestion 6 = .ok (.iload 6, 2) := by decide +kernel
theorem dX8_mixedQuestion_8 : decode cX8_mixedQuestion 8 = .ok (.iconst 5, 1) := by decide +kernel
theorem dX8_mixedQuestion_9 : decode cX8_mixedQuestion 9 = .ok (.if_icmp .gt 24, 3) := by decide +kernel
theorem dX8_mixedQuestion_12 : decode cX8_mixedQuestion 12 = .ok (.lload 4, 2) := by decide +kernel
theorem dX8_mixedQuestion_14 : decode cX8_mixedQuestion 14 = .ok (.aload_n 0, 1) := by decide +kernel
theorem dX8_mixedQuestion_15 : decode cX8_mixedQuestion 15 = .ok (.iload_n 3, 1) := by decide +kernel
theorem dX8_mixedQuestion_16 : decode cX8_mixedQuestion 16 = .ok (.iload 6, 2) := by decide +kernel
theorem dX8_mixedQuestion_18 : decode cX8_mixedQuestion 18 = .ok (.invokevirtual 254, 3) := by decide +kernel
theorem dX8_mixedQuestion_21 : decode cX8_mixedQuestion 21 = .ok (.i2l, 1) := by decide +kernel
theorem dX8_mixedQuestion_22 : decode cX8_mixedQuestion 22 = .ok (.invokestatic 240, 3) := by decide +kernel
theorem dX8_mixedQuestion_25 : decode cX8_mixedQuestion 25 = .ok (.lstore 4, 2) := by decide +kernel
theorem dX8_mixedQuestion_27 : decode cX8_mixedQuestion 27 = .ok (.iinc 6 1, 3) := by decide +kernel
theorem dX8_mixedQuestion_30 : decode cX8_mixedQuestion 30 = .ok (.goto (-24), 3) := by decide +kernel
theorem dX8_mixedQuestion_33 : decode cX8_mixedQuestion 33 = .ok (.iconst 0, 1) := by decide +kernel
theorem dX8_mixedQuestion_34 : decode cX8_mixedQuestion 34 = .ok (.istore 6, 2) := by decide +kernel
theorem dX8_mixedQuestion_36 : decode cX8_mixedQuestion 36 = .ok (.iload 6, 2) := by decide +kernel
theorem dX8_mixedQuestion_38 : decode cX8_mixedQuestion 38 = .ok (.aload_n 0, 1) := by decide +kernel
theorem dX8_mixedQuestion_39 : decode cX8_mixedQuestion 39 = .ok (.getfield 19, 3) := by decide +kernel
theorem dX8_mixedQuestion_42 : decode cX8_mixedQuestion 42 = .ok (.getfield 68, 3) := by decide +kernel
theorem dX8_mixedQuestion_45 : decode cX8_mixedQuestion 45 = .ok (.if_icmp .ge 41, 3) := by decide +kernel
theorem dX8_mixedQuestion_48 : decode cX8_mixedQuestion 48 = .ok (.lload 4, 2) := by decide +kernel
theorem dX8_mixedQuestion_50 : decode cX8_mixedQuestion 50 = .ok (.aload_n 0, 1) := by decide +kernel
theorem dX8_mixedQuestion_51 : decode cX8_mixedQuestion 51 = .ok (.iload 6, 2) := by decide +kernel
theorem dX8_mixedQuestion_53 : decode cX8_mixedQuestion 53 = .ok (.iload_n 3, 1) := by decide +kernel
theorem dX8_mixedQuestion_54 : decode cX8_mixedQuestion 54 = .ok (.iconst 0, 1) := by decide +kernel
theorem dX8_mixedQuestion_55 : decode cX8_mixedQuestion 55 = .ok (.invokevirtual 257, 3) := by decide +kernel
theorem dX8_mixedQuestion_58 : decode cX8_mixedQuestion 58 = .ok (.i2l, 1) := by decide +kernel
theorem dX8_mixedQuestion_59 : decode cX8_mixedQuestion 59 = .ok (.invokestatic 240, 3) := by decide +kernel
theorem dX8_mixedQuestion_62 : decode cX8_mixedQuestion 62 = .ok (.lstore 4, 2) := by decide +kernel
theorem dX8_mixedQuestion_64 : decode cX8_mixedQuestion 64 = .ok (.lload 4, 2) := by decide +kernel
theorem dX8_mixedQuestion_66 : decode cX8_mixedQuestion 66 = .ok (.aload_n 0, 1) := by decide +kernel
theorem dX8_mixedQuestion_67 : decode cX8_mixedQuestion 67 = .ok (.iload 6, 2) := by decide +kernel
theorem dX8_mixedQuestion_69 : decode cX8_mixedQuestion 69 = .ok (.iload_n 3, 1) := by decide +kernel
theorem dX8_mixedQuestion_70 : decode cX8_mixedQuestion 70 = .ok (.iconst 1, 1) := by decide +kernel
theorem dX8_mixedQuestion_71 : decode cX8_mixedQuestion 71 = .ok (.invokevirtual 257, 3) := by decide +kernel
theorem dX8_mixedQuestion_74 : decode cX8_mixedQuestion 74 = .ok (.i2l, 1) := by decide +kernel
theorem dX8_mixedQuestion_75 : decode cX8_mixedQuestion 75 = .ok (.invokestatic 240, 3) := by decide +kernel
theorem dX8_mixedQuestion_78 : decode cX8_mixedQuestion 78 = .ok (.lstore 4, 2) := by decide +kernel
theorem dX8_mixedQuestion_80 : decode cX8_mixedQuestion 80 = .ok (.iinc 6 1, 3) := by decide +kernel
theorem dX8_mixedQuestion_83 : decode cX8_mixedQuestion 83 = .ok (.goto (-47), 3) := by decide +kernel
theorem dX8_mixedQuestion_86 : decode cX8_mixedQuestion 86 = .ok (.lload 4, 2) := by decide +kernel
theorem dX8_mixedQuestion_88 : decode cX8_mixedQuestion 88 = .ok (.aload_n 0, 1) := by decide +kernel
theorem dX8_mixedQuestion_89 : decode cX8_mixedQuestion 89 = .ok (.iload_n 3, 1) := by decide +kernel
theorem dX8_mixedQuestion_90 : decode cX8_mixedQuestion 90 = .ok (.iconst 3, 1) := by decide +kernel
theorem dX8_mixedQuestion_91 : decode cX8_mixedQuestion 91 = .ok (.iconst 0, 1) := by decide +kernel
theorem dX8_mixedQuestion_92 : decode cX8_mixedQuestion 92 = .ok (.invokevirtual 260, 3) := by decide +kernel
theorem dX8_mixedQuestion_95 : decode cX8_mixedQuestion 95 = .ok (.i2l, 1) := by decide +kernel
theorem dX8_mixedQuestion_96 : decode cX8_mixedQuestion 96 = .ok (.invokestatic 240, 3) := by decide +kernel
theorem dX8_mixedQuestion_99 : decode cX8_mixedQuestion 99 = .ok (.lstore 4, 2) := by decide +kernel
theorem dX8_mixedQuestion_101 : decode cX8_mixedQuestion 101 = .ok (.lload 4, 2) := by decide +kernel
theorem dX8_mixedQuestion_103 : decode cX8_mixedQuestion 103 = .ok (.aload_n 0, 1) := by decide +kernel
theorem dX8_mixedQuestion_104 : decode cX8_mixedQuestion 104 = .ok (.iload_n 3, 1) := by decide +kernel
theorem dX8_mixedQuestion_105 : decode cX8_mixedQuestion 105 = .ok (.iconst 3, 1) := by decide +kernel
theorem dX8_mixedQuestion_106 : decode cX8_mixedQuestion 106 = .ok (.iconst 1, 1) := by decide +kernel
theorem dX8_mixedQuestion_107 : decode cX8_mixedQuestion 107 = .ok (.invokevirtual 260, 3) := by decide +kernel
theorem dX8_mixedQuestion_110 : decode cX8_mixedQuestion 110 = .ok (.i2l, 1) := by decide +kernel
theorem dX8_mixedQuestion_111 : decode cX8_mixedQuestion 111 = .ok (.invokestatic 240, 3) := by decide +kernel
theorem dX8_mixedQuestion_114 : decode cX8_mixedQuestion 114 = .ok (.lstore 4, 2) := by decide +kernel
theorem dX8_mixedQuestion_116 : decode cX8_mixedQuestion 116 = .ok (.lload 4, 2) := by decide +kernel
theorem dX8_mixedQuestion_118 : decode cX8_mixedQuestion 118 = .ok (.aload_n 0, 1) := by decide +kernel
theorem dX8_mixedQuestion_119 : decode cX8_mixedQuestion 119 = .ok (.iload_n 3, 1) := by decide +kernel
theorem dX8_mixedQuestion_120 : decode cX8_mixedQuestion 120 = .ok (.iconst 1, 1) := by decide +kernel
theorem dX8_mixedQuestion_121 : decode cX8_mixedQuestion 121 = .ok (.iconst 0, 1) := by decide +kernel
theorem dX8_mixedQuestion_122 : decode cX8_mixedQuestion 122 = .ok (.invokevirtual 263, 3) := by decide +kernel
theorem dX8_mixedQuestion_125 : decode cX8_mixedQuestion 125 = .ok (.i2l, 1) := by decide +kernel
theorem dX8_mixedQuestion_126 : decode cX8_mixedQuestion 126 = .ok (.invokestatic 240, 3) := by decide +kernel
theorem dX8_mixedQuestion_129 : decode cX8_mixedQuestion 129 = .ok (.lstore 4, 2) := by decide +kernel
theorem dX8_mixedQuestion_131 : decode cX8_mixedQuestion 131 = .ok (.lload 4, 2) := by decide +kernel
theorem dX8_mixedQuestion_133 : decode cX8_mixedQuestion 133 = .ok (.aload_n 0, 1) := by decide +kernel
theorem dX8_mixedQuestion_134 : decode cX8_mixedQuestion 134 = .ok (.iload_n 3, 1) := by decide +kernel
theorem dX8_mixedQuestion_135 : decode cX8_mixedQuestion 135 = .ok (.iconst 1, 1) := by decide +kernel
theorem dX8_mixedQuestion_136 : decode cX8_mixedQuestion 136 = .ok (.iconst 1, 1) := by decide +kernel
theorem dX8_mixedQuestion_137 : decode cX8_mixedQuestion 137 = .ok (.invokevirtual 263, 3) := by decide +kernel
theorem dX8_mixedQuestion_140 : decode cX8_mixedQuestion 140 = .ok (.i2l, 1) := by decide +kernel
theorem dX8_mixedQuestion_141 : decode cX8_mixedQuestion 141 = .ok (.invokestatic 240, 3) := by decide +kernel
theorem dX8_mixedQuestion_144 : decode cX8_mixedQuestion 144 = .ok (.lreturn, 1) := by decide +kernel
theorem dX8_mixed_0 : decode cX8_mixed 0 = .ok (.ldc2_w 266, 3) := by decide +kernel
theorem dX8_mixed_3 : decode cX8_mixed 3 = .ok (.lload_n 0, 1) := by decide +kernel
theorem dX8_mixed_4 : decode cX8_mixed 4 = .ok (.lmul, 1) := by decide +kernel
theorem dX8_mixed_5 : decode cX8_mixed 5 = .ok (.lload_n 2, 1) := by decide +kernel
theorem dX8_mixed_6 : decode cX8_mixed 6 = .ok (.ladd, 1) := by decide +kernel
theorem dX8_mixed_7 : decode cX8_mixed 7 = .ok (.lreturn, 1) := by decide +kernel
theorem dX8_isQuestion_0 : decode cX8_isQuestion 0 = .ok (.aload_n 0, 1) := by decide +kernel
theorem dX8_isQuestion_1 : decode cX8_isQuestion 1 = .ok (.getfield 19, 3) := by decide +kernel
theorem dX8_isQuestion_4 : decode cX8_isQuestion 4 = .ok (.getfield 68, 3) := by decide +kernel
theorem dX8_isQuestion_7 : decode cX8_isQuestion 7 = .ok (.ifCond .le 16, 3) := by decide +kernel
theorem dX8_isQuestion_10 : decode cX8_isQuestion 10 = .ok (.iload_n 1, 1) := by decide +kernel
theorem dX8_isQuestion_11 : decode cX8_isQuestion 11 = .ok (.ifCond .lt 12, 3) := by decide +kernel
theorem dX8_isQuestion_14 : decode cX8_isQuestion 14 = .ok (.iload_n 1, 1) := by decide +kernel
theorem dX8_isQuestion_15 : decode cX8_isQuestion 15 = .ok (.iconst 3, 1) := by decide +kernel
theorem dX8_isQuestion_16 : decode cX8_isQuestion 16 = .ok (.if_icmp .ge 7, 3) := by decide +kernel
theorem dX8_isQuestion_19 : decode cX8_isQuestion 19 = .ok (.iconst 1, 1) := by decide +kernel
theorem dX8_isQuestion_20 : decode cX8_isQuestion 20 = .ok (.goto 4, 3) := by decide +kernel
theorem dX8_isQuestion_23 : decode cX8_isQuestion 23 = .ok (.iconst 0, 1) := by decide +kernel
theorem dX8_isQuestion_24 : decode cX8_isQuestion 24 = .ok (.ireturn, 1) := by decide +kernel
theorem dX8_isWay_0 : decode cX8_isWay 0 = .ok (.iload_n 0, 1) := by decide +kernel
theorem dX8_isWay_1 : decode cX8_isWay 1 = .ok (.iconst (-1), 1) := by decide +kernel
theorem dX8_isWay_2 : decode cX8_isWay 2 = .ok (.if_icmp .lt 12, 3) := by decide +kernel
theorem dX8_isWay_5 : decode cX8_isWay 5 = .ok (.iload_n 0, 1) := by decide +kernel
theorem dX8_isWay_6 : decode cX8_isWay 6 = .ok (.iconst 1, 1) := by decide +kernel
theorem dX8_isWay_7 : decode cX8_isWay 7 = .ok (.if_icmp .gt 7, 3) := by decide +kernel
theorem dX8_isWay_10 : decode cX8_isWay 10 = .ok (.iconst 1, 1) := by decide +kernel
theorem dX8_isWay_11 : decode cX8_isWay 11 = .ok (.goto 4, 3) := by decide +kernel
theorem dX8_isWay_14 : decode cX8_isWay 14 = .ok (.iconst 0, 1) := by decide +kernel
theorem dX8_isWay_15 : decode cX8_isWay 15 = .ok (.ireturn, 1) := by decide +kernel
theorem dX8_isHalf_0 : decode cX8_isHalf 0 = .ok (.iload_n 0, 1) := by decide +kernel
theorem dX8_isHalf_1 : decode cX8_isHalf 1 = .ok (.ifCond .eq 8, 3) := by decide +kernel
theorem dX8_isHalf_4 : decode cX8_isHalf 4 = .ok (.iload_n 0, 1) := by decide +kernel
theorem dX8_isHalf_5 : decode cX8_isHalf 5 = .ok (.iconst 1, 1) := by decide +kernel
theorem dX8_isHalf_6 : decode cX8_isHalf 6 = .ok (.if_icmp .ne 7, 3) := by decide +kernel
theorem dX8_isHalf_9 : decode cX8_isHalf 9 = .ok (.iconst 1, 1) := by decide +kernel
theorem dX8_isHalf_10 : decode cX8_isHalf 10 = .ok (.goto 4, 3) := by decide +kernel
theorem dX8_isHalf_13 : decode cX8_isHalf 13 = .ok (.iconst 0, 1) := by decide +kernel
theorem dX8_isHalf_14 : decode cX8_isHalf 14 = .ok (.ireturn, 1) := by decide +kernel
theorem dX8_totalOf_0 : decode cX8_totalOf 0 = .ok (.iconst 0, 1) := by decide +kernel
theorem dX8_totalOf_1 : decode cX8_totalOf 1 = .ok (.istore_n 1, 1) := by decide +kernel
theorem dX8_totalOf_2 : decode cX8_totalOf 2 = .ok (.aload_n 0, 1) := by decide +kernel
theorem dX8_totalOf_3 : decode cX8_totalOf 3 = .ok (.astore_n 2, 1) := by decide +kernel
theorem dX8_totalOf_4 : decode cX8_totalOf 4 = .ok (.aload_n 2, 1) := by decide +kernel
theorem dX8_totalOf_5 : decode cX8_totalOf 5 = .ok (.arraylength, 1) := by decide +kernel
theorem dX8_totalOf_6 : decode cX8_totalOf 6 = .ok (.istore_n 3, 1) := by decide +kernel
theorem dX8_totalOf_7 : decode cX8_totalOf 7 = .ok (.iconst 0, 1) := by decide +kernel
theorem dX8_totalOf_8 : decode cX8_totalOf 8 = .ok (.istore 4, 2) := by decide +kernel
theorem dX8_totalOf_10 : decode cX8_totalOf 10 = .ok (.iload 4, 2) := by decide +kernel
theorem dX8_totalOf_12 : decode cX8_totalOf 12 = .ok (.iload_n 3, 1) := by decide +kernel
theorem dX8_totalOf_13 : decode cX8_totalOf 13 = .ok (.if_icmp .ge 20, 3) := by decide +kernel
theorem dX8_totalOf_16 : decode cX8_totalOf 16 = .ok (.aload_n 2, 1) := by decide +kernel
theorem dX8_totalOf_17 : decode cX8_totalOf 17 = .ok (.iload 4, 2) := by decide +kernel
theorem dX8_totalOf_19 : decode cX8_totalOf 19 = .ok (.iaload, 1) := by decide +kernel
theorem dX8_totalOf_20 : decode cX8_totalOf 20 = .ok (.istore 5, 2) := by decide +kernel
theorem dX8_totalOf_22 : decode cX8_totalOf 22 = .ok (.iload_n 1, 1) := by decide +kernel
theorem dX8_totalOf_23 : decode cX8_totalOf 23 = .ok (.iload 5, 2) := by decide +kernel
theorem dX8_totalOf_25 : decode cX8_totalOf 25 = .ok (.iadd, 1) := by decide +kernel
theorem dX8_totalOf_26 : decode cX8_totalOf 26 = .ok (.istore_n 1, 1) := by decide +kernel
theorem dX8_totalOf_27 : decode cX8_totalOf 27 = .ok (.iinc 4 1, 3) := by decide +kernel
theorem dX8_totalOf_30 : decode cX8_totalOf 30 = .ok (.goto (-20), 3) := by decide +kernel
theorem dX8_totalOf_33 : decode cX8_totalOf 33 = .ok (.iload_n 1, 1) := by decide +kernel
theorem dX8_totalOf_34 : decode cX8_totalOf 34 = .ok (.ireturn, 1) := by decide +kernel
theorem dX8_howManyLean_0 : decode cX8_howManyLean 0 = .ok (.iconst 0, 1) := by decide +kernel
theorem dX8_howManyLean_1 : decode cX8_howManyLean 1 = .ok (.istore_n 3, 1) := by decide +kernel
theorem dX8_howManyLean_2 : decode cX8_howManyLean 2 = .ok (.iconst 0, 1) := by decide +kernel
theorem dX8_howManyLean_3 : decode cX8_howManyLean 3 = .ok (.istore 4, 2) := by decide +kernel
theorem dX8_howManyLean_5 : decode cX8_howManyLean 5 = .ok (.iload 4, 2) := by decide +kernel
theorem dX8_howManyLean_7 : decode cX8_howManyLean 7 = .ok (.aload_n 0, 1) := by decide +kernel
theorem dX8_howManyLean_8 : decode cX8_howManyLean 8 = .ok (.getfield 19, 3) := by decide +kernel
theorem dX8_howManyLean_11 : decode cX8_howManyLean 11 = .ok (.getfield 68, 3) := by decide +kernel
theorem dX8_howManyLean_14 : decode cX8_howManyLean 14 = .ok (.if_icmp .ge 28, 3) := by decide +kernel
theorem dX8_howManyLean_17 : decode cX8_howManyLean 17 = .ok (.aload_n 0, 1) := by decide +kernel
theorem dX8_howManyLean_18 : decode cX8_howManyLean 18 = .ok (.getfield 26, 3) := by decide +kernel
theorem dX8_howManyLean_21 : decode cX8_howManyLean 21 = .ok (.getfield 85, 3) := by decide +kernel
theorem dX8_howManyLean_24 : decode cX8_howManyLean 24 = .ok (.iload_n 1, 1) := by decide +kernel
theorem dX8_howManyLean_25 : decode cX8_howManyLean 25 = .ok (.aaload, 1) := by decide +kernel
theorem dX8_howManyLean_26 : decode cX8_howManyLean 26 = .ok (.iload 4, 2) := by decide +kernel
theorem dX8_howManyLean_28 : decode cX8_howManyLean 28 = .ok (.iaload, 1) := by decide +kernel
theorem dX8_howManyLean_29 : decode cX8_howManyLean 29 = .ok (.iload_n 2, 1) := by decide +kernel
theorem dX8_howManyLean_30 : decode cX8_howManyLean 30 = .ok (.if_icmp .ne 6, 3) := by decide +kernel
theorem dX8_howManyLean_33 : decode cX8_howManyLean 33 = .ok (.iinc 3 1, 3) := by decide +kernel
theorem dX8_howManyLean_36 : decode cX8_howManyLean 36 = .ok (.iinc 4 1, 3) := by decide +kernel
theorem dX8_howManyLean_39 : decode cX8_howManyLean 39 = .ok (.goto (-34), 3) := by decide +kernel
theorem dX8_howManyLean_42 : decode cX8_howManyLean 42 = .ok (.iload_n 3, 1) := by decide +kernel
theorem dX8_howManyLean_43 : decode cX8_howManyLean 43 = .ok (.ireturn, 1) := by decide +kernel
theorem dX8_howManyCarriedNow_0 : decode cX8_howManyCarriedNow 0 = .ok (.iconst 0, 1) := by decide +kernel
theorem dX8_howManyCarriedNow_1 : decode cX8_howManyCarriedNow 1 = .ok (.istore_n 1, 1) := by decide +kernel
theorem dX8_howManyCarriedNow_2 : decode cX8_howManyCarriedNow 2 = .ok (.iconst 0, 1) := by decide +kernel
theorem dX8_howManyCarriedNow_3 : decode cX8_howManyCarriedNow 3 = .ok (.istore_n 2, 1) := by decide +kernel
theorem dX8_howManyCarriedNow_4 : decode cX8_howManyCarriedNow 4 = .ok (.iload_n 2, 1) := by decide +kernel
theorem dX8_howManyCarriedNow_5 : decode cX8_howManyCarriedNow 5 = .ok (.iconst 3, 1) := by decide +kernel
theorem dX8_howManyCarriedNow_6 : decode cX8_howManyCarriedNow 6 = .ok (.if_icmp .ge 27, 3) := by decide +kernel
theorem dX8_howManyCarriedNow_9 : decode cX8_howManyCarriedNow 9 = .ok (.aload_n 0, 1) := by decide +kernel
theorem dX8_howManyCarriedNow_10 : decode cX8_howManyCarriedNow 10 = .ok (.getfield 19, 3) := by decide +kernel
theorem dX8_howManyCarriedNow_13 : decode cX8_howManyCarriedNow 13 = .ok (.aload_n 0, 1) := by decide +kernel
theorem dX8_howManyCarriedNow_14 : decode cX8_howManyCarriedNow 14 = .ok (.getfield 26, 3) := by decide +kernel
theorem dX8_howManyCarriedNow_17 : decode cX8_howManyCarriedNow 17 = .ok (.iload_n 2, 1) := by decide +kernel
theorem dX8_howManyCarriedNow_18 : decode cX8_howManyCarriedNow 18 = .ok (.invokevirtual 143, 3) := by decide +kernel
theorem dX8_howManyCarriedNow_21 : decode cX8_howManyCarriedNow 21 = .ok (.ifCond .le 6, 3) := by decide +kernel
theorem dX8_howManyCarriedNow_24 : decode cX8_howManyCarriedNow 24 = .ok (.iinc 1 1, 3) := by decide +kernel
theorem dX8_howManyCarriedNow_27 : decode cX8_howManyCarriedNow 27 = .ok (.iinc 2 1, 3) := by decide +kernel
theorem dX8_howManyCarriedNow_30 : decode cX8_howManyCarriedNow 30 = .ok (.goto (-26), 3) := by decide +kernel
theorem dX8_howManyCarriedNow_33 : decode cX8_howManyCarriedNow 33 = .ok (.iload_n 1, 1) := by decide +kernel
theorem dX8_howManyCarriedNow_34 : decode cX8_howManyCarriedNow 34 = .ok (.ireturn, 1) := by decide +kernel
theorem dX8_outcomeOf_0 : decode cX8_outcomeOf 0 = .ok (.iload_n 0, 1) := by decide +kernel
theorem dX8_outcomeOf_1 : decode cX8_outcomeOf 1 = .ok (.ifCond .le 5, 3) := by decide +kernel
theorem dX8_outcomeOf_4 : decode cX8_outcomeOf 4 = .ok (.iconst 1, 1) := by decide +kernel
theorem dX8_outcomeOf_5 : decode cX8_outcomeOf 5 = .ok (.ireturn, 1) := by decide +kernel
theorem dX8_outcomeOf_6 : decode cX8_outcomeOf 6 = .ok (.iload_n 0, 1) := by decide +kernel
theorem dX8_outcomeOf_7 : decode cX8_outcomeOf 7 = .ok (.ifCond .ge 7, 3) := by decide +kernel
theorem dX8_outcomeOf_10 : decode cX8_outcomeOf 10 = .ok (.iconst (-1), 1) := by decide +kernel
theorem dX8_outcomeOf_11 : decode cX8_outcomeOf 11 = .ok (.goto 4, 3) := by decide +kernel
theorem dX8_outcomeOf_14 : decode cX8_outcomeOf 14 = .ok (.iconst 0, 1) := by decide +kernel
theorem dX8_outcomeOf_15 : decode cX8_outcomeOf 15 = .ok (.ireturn, 1) := by decide +kernel
theorem dX8_isOfKind_0 : decode cX8_isOfKind 0 = .ok (.iload_n 1, 1) := by decide +kernel
theorem dX8_isOfKind_1 : decode cX8_isOfKind 1 = .ok (.tableswitch 48 0 3 #[31, 33, 38, 43], 31) := by decide +kernel
theorem dX8_isOfKind_32 : decode cX8_isOfKind 32 = .ok (.iconst 1, 1) := by decide +kernel
theorem dX8_isOfKind_33 : decode cX8_isOfKind 33 = .ok (.ireturn, 1) := by decide +kernel
theorem dX8_isOfKind_34 : decode cX8_isOfKind 34 = .ok (.aload_n 0, 1) := by decide +kernel
theorem dX8_isOfKind_35 : decode cX8_isOfKind 35 = .ok (.instanceof 268, 3) := by decide +kernel
theorem dX8_isOfKind_38 : decode cX8_isOfKind 38 = .ok (.ireturn, 1) := by decide +kernel
theorem dX8_isOfKind_39 : decode cX8_isOfKind 39 = .ok (.aload_n 0, 1) := by decide +kernel
theorem dX8_isOfKind_40 : decode cX8_isOfKind 40 = .ok (.instanceof 270, 3) := by decide +kernel
theorem dX8_isOfKind_43 : decode cX8_isOfKind 43 = .ok (.ireturn, 1) := by decide +kernel
theorem dX8_isOfKind_44 : decode cX8_isOfKind 44 = .ok (.aload_n 0, 1) := by decide +kernel
theorem dX8_isOfKind_45 : decode cX8_isOfKind 45 = .ok (.instanceof 272, 3) := by decide +kernel
theorem dX8_isOfKind_48 : decode cX8_isOfKind 48 = .ok (.ireturn, 1) := by decide +kernel
theorem dX8_isOfKind_49 : decode cX8_isOfKind 49 = .ok (.aload_n 0, 1) := by decide +kernel
theorem dX8_isOfKind_50 : decode cX8_isOfKind 50 = .ok (.instanceof 274, 3) := by decide +kernel
theorem dX8_isOfKind_53 : decode cX8_isOfKind 53 = .ok (.ireturn, 1) := by decide +kernel
theorem dX8_ordersDecided_0 : decode cX8_ordersDecided 0 = .ok (.iload_n 1, 1) := by decide +kernel
theorem dX8_ordersDecided_1 : decode cX8_ordersDecided 1 = .ok (.iload_n 3, 1) := by decide +kernel
theorem dX8_ordersDecided_2 : decode cX8_ordersDecided 2 = .ok (.if_icmp .lt 5, 3) := by decide +kernel
theorem dX8_ordersDecided_5 : decode cX8_ordersDecided 5 = .ok (.iconst 0, 1) := by decide +kernel
theorem dX8_ordersDecided_6 : decode cX8_ordersDecided 6 = .ok (.ireturn, 1) := by decide +kernel
theorem dX8_ordersDecided_7 : decode cX8_ordersDecided 7 = .ok (.aload_n 0, 1) := by decide +kernel
theorem dX8_ordersDecided_8 : decode cX8_ordersDecided 8 = .ok (.iload_n 2, 1) := by decide +kernel
theorem dX8_ordersDecided_9 : decode cX8_ordersDecided 9 = .ok (.iload_n 3, 1) := by decide +kernel
theorem dX8_ordersDecided_10 : decode cX8_ordersDecided 10 = .ok (.iconst 1, 1) := by decide +kernel
theorem dX8_ordersDecided_11 : decode cX8_ordersDecided 11 = .ok (.invokevirtual 276, 3) := by decide +kernel
theorem dX8_ordersDecided_14 : decode cX8_ordersDecided 14 = .ok (.aload_n 0, 1) := by decide +kernel
theorem dX8_ordersDecided_15 : decode cX8_ordersDecided 15 = .ok (.getfield 36, 3) := by decide +kernel
theorem dX8_ordersDecided_18 : decode cX8_ordersDecided 18 = .ok (.iconst 1, 1) := by decide +kernel
theorem dX8_ordersDecided_19 : decode cX8_ordersDecided 19 = .ok (.iload_n 1, 1) := by decide +kernel
theorem dX8_ordersDecided_20 : decode cX8_ordersDecided 20 = .ok (.ishl, 1) := by decide +kernel
theorem dX8_ordersDecided_21 : decode cX8_ordersDecided 21 = .ok (.iaload, 1) := by decide +kernel
theorem dX8_ordersDecided_22 : decode cX8_ordersDecided 22 = .ok (.istore 4, 2) := by decide +kernel
theorem dX8_ordersDecided_24 : decode cX8_ordersDecided 24 = .ok (.aload_n 0, 1) := by decide +kernel
theorem dX8_ordersDecided_25 : decode cX8_ordersDecided 25 = .ok (.getfield 36, 3) := by decide +kernel
theorem dX8_ordersDecided_28 : decode cX8_ordersDecided 28 = .ok (.iconst 1, 1) := by decide +kernel
theorem dX8_ordersDecided_29 : decode cX8_ordersDecided 29 = .ok (.iload_n 3, 1) := by decide +kernel
theorem dX8_ordersDecided_30 : decode cX8_ordersDecided 30 = .ok (.ishl, 1) := by decide +kernel
theorem dX8_ordersDecided_31 : decode cX8_ordersDecided 31 = .ok (.iconst 1, 1) := by decide +kernel
theorem dX8_ordersDecided_32 : decode cX8_ordersDecided 32 = .ok (.isub, 1) := by decide +kernel
theorem dX8_ordersDecided_33 : decode cX8_ordersDecided 33 = .ok (.iaload, 1) := by decide +kernel
theorem dX8_ordersDecided_34 : decode cX8_ordersDecided 34 = .ok (.istore 5, 2) := by decide +kernel
theorem dX8_ordersDecided_36 : decode cX8_ordersDecided 36 = .ok (.iconst 0, 1) := by decide +kernel
theorem dX8_ordersDecided_37 : decode cX8_ordersDecided 37 = .ok (.istore 6, 2) := by decide +kernel
theorem dX8_ordersDecided_39 : decode cX8_ordersDecided 39 = .ok (.iconst 0, 1) := by decide +kernel
theorem dX8_ordersDecided_40 : decode cX8_ordersDecided 40 = .ok (.istore 7, 2) := by decide +kernel
theorem dX8_ordersDecided_42 : decode cX8_ordersDecided 42 = .ok (.iload 7, 2) := by decide +kernel
theorem dX8_ordersDecided_44 : decode cX8_ordersDecided 44 = .ok (.iconst 1, 1) := by decide +kernel
theorem dX8_ordersDecided_45 : decode cX8_ordersDecided 45 = .ok (.iload_n 3, 1) := by decide +kernel
theorem dX8_ordersDecided_46 : decode cX8_ordersDecided 46 = .ok (.ishl, 1) := by decide +kernel
theorem dX8_ordersDecided_47 : decode cX8_ordersDecided 47 = .ok (.if_icmp .ge 89, 3) := by decide +kernel
theorem dX8_ordersDecided_50 : decode cX8_ordersDecided 50 = .ok (.iload 7, 2) := by decide +kernel
theorem dX8_ordersDecided_52 : decode cX8_ordersDecided 52 = .ok (.iload_n 1, 1) := by decide +kernel
theorem dX8_ordersDecided_53 : decode cX8_ordersDecided 53 = .ok (.ishr, 1) := by decide +kernel
theorem dX8_ordersDecided_54 : decode cX8_ordersDecided 54 = .ok (.iconst 1, 1) := by decide +kernel
theorem dX8_ordersDecided_55 : decode cX8_ordersDecided 55 = .ok (.iand, 1) := by decide +kernel
theorem dX8_ordersDecided_56 : decode cX8_ordersDecided 56 = .ok (.ifCond .ne 7, 3) := by decide +kernel
theorem dX8_ordersDecided_59 : decode cX8_ordersDecided 59 = .ok (.iconst 1, 1) := by decide +kernel
theorem dX8_ordersDecided_60 : decode cX8_ordersDecided 60 = .ok (.goto 4, 3) := by decide +kernel
theorem dX8_ordersDecided_63 : decode cX8_ordersDecided 63 = .ok (.iconst 0, 1) := by decide +kernel
theorem dX8_ordersDecided_64 : decode cX8_ordersDecided 64 = .ok (.istore 8, 2) := by decide +kernel
theorem dX8_ordersDecided_66 : decode cX8_ordersDecided 66 = .ok (.aload_n 0, 1) := by decide +kernel
theorem dX8_ordersDecided_67 : decode cX8_ordersDecided 67 = .ok (.getfield 36, 3) := by decide +kernel
theorem dX8_ordersDecided_70 : decode cX8_ordersDecided 70 = .ok (.iload 7, 2) := by decide +kernel
theorem dX8_ordersDecided_72 : decode cX8_ordersDecided 72 = .ok (.iaload, 1) := by decide +kernel
theorem dX8_ordersDecided_73 : decode cX8_ordersDecided 73 = .ok (.istore 9, 2) := by decide +kernel
theorem dX8_ordersDecided_75 : decode cX8_ordersDecided 75 = .ok (.iload 8, 2) := by decide +kernel
theorem dX8_ordersDecided_77 : decode cX8_ordersDecided 77 = .ok (.ifCond .eq 53, 3) := by decide +kernel
theorem dX8_ordersDecided_80 : decode cX8_ordersDecided 80 = .ok (.iconst 2, 1) := by decide +kernel
theorem dX8_ordersDecided_81 : decode cX8_ordersDecided 81 = .ok (.iload 9, 2) := by decide +kernel
theorem dX8_ordersDecided_83 : decode cX8_ordersDecided 83 = .ok (.imul, 1) := by decide +kernel
theorem dX8_ordersDecided_84 : decode cX8_ordersDecided 84 = .ok (.iload 5, 2) := by decide +kernel
theorem dX8_ordersDecided_86 : decode cX8_ordersDecided 86 = .ok (.if_icmp .gt 44, 3) := by decide +kernel
theorem dX8_ordersDecided_89 : decode cX8_ordersDecided 89 = .ok (.iconst 2, 1) := by decide +kernel
theorem dX8_ordersDecided_90 : decode cX8_ordersDecided 90 = .ok (.iload 9, 2) := by decide +kernel
theorem dX8_ordersDecided_92 : decode cX8_ordersDecided 92 = .ok (.iload 4, 2) := by decide +kernel
theorem dX8_ordersDecided_94 : decode cX8_ordersDecided 94 = .ok (.iadd, 1) := by decide +kernel
theorem dX8_ordersDecided_95 : decode cX8_ordersDecided 95 = .ok (.imul, 1) := by decide +kernel
theorem dX8_ordersDecided_96 : decode cX8_ordersDecided 96 = .ok (.iload 5, 2) := by decide +kernel
theorem dX8_ordersDecided_98 : decode cX8_ordersDecided 98 = .ok (.if_icmp .le 32, 3) := by decide +kernel
theorem dX8_ordersDecided_101 : decode cX8_ordersDecided 101 = .ok (.iload 7, 2) := by decide +kernel
theorem dX8_ordersDecided_103 : decode cX8_ordersDecided 103 = .ok (.invokestatic 280, 3) := by decide +kernel
theorem dX8_ordersDecided_106 : decode cX8_ordersDecided 106 = .ok (.istore 10, 2) := by decide +kernel
theorem dX8_ordersDecided_108 : decode cX8_ordersDecided 108 = .ok (.iload 6, 2) := by decide +kernel
theorem dX8_ordersDecided_110 : decode cX8_ordersDecided 110 = .ok (.getstatic 176, 3) := by decide +kernel
theorem dX8_ordersDecided_113 : decode cX8_ordersDecided 113 = .ok (.iload 10, 2) := by decide +kernel
theorem dX8_ordersDecided_115 : decode cX8_ordersDecided 115 = .ok (.iaload, 1) := by decide +kernel
theorem dX8_ordersDecided_116 : decode cX8_ordersDecided 116 = .ok (.getstatic 176, 3) := by decide +kernel
theorem dX8_ordersDecided_119 : decode cX8_ordersDecided 119 = .ok (.iload_n 3, 1) := by decide +kernel
theorem dX8_ordersDecided_120 : decode cX8_ordersDecided 120 = .ok (.iconst 1, 1) := by decide +kernel
theorem dX8_ordersDecided_121 : decode cX8_ordersDecided 121 = .ok (.isub, 1) := by decide +kernel
theorem dX8_ordersDecided_122 : decode cX8_ordersDecided 122 = .ok (.iload 10, 2) := by decide +kernel
theorem dX8_ordersDecided_124 : decode cX8_ordersDecided 124 = .ok (.isub, 1) := by decide +kernel
theorem dX8_ordersDecided_125 : decode cX8_ordersDecided 125 = .ok (.iaload, 1) := by decide +kernel
theorem dX8_ordersDecided_126 : decode cX8_ordersDecided 126 = .ok (.imul, 1) := by decide +kernel
theorem dX8_ordersDecided_127 : decode cX8_ordersDecided 127 = .ok (.iadd, 1) := by decide +kernel
theorem dX8_ordersDecided_128 : decode cX8_ordersDecided 128 = .ok (.istore 6, 2) := by decide +kernel
theorem dX8_ordersDecided_130 : decode cX8_ordersDecided 130 = .ok (.iinc 7 1, 3) := by decide +kernel
theorem dX8_ordersDecided_133 : decode cX8_ordersDecided 133 = .ok (.goto (-91), 3) := by decide +kernel
theorem dX8_ordersDecided_136 : decode cX8_ordersDecided 136 = .ok (.iload 6, 2) := by decide +kernel
theorem dX8_ordersDecided_138 : decode cX8_ordersDecided 138 = .ok (.ireturn, 1) := by decide +kernel
theorem dX8_partsCarried_0 : decode cX8_partsCarried 0 = .ok (.aload_n 0, 1) := by decide +kernel
theorem dX8_partsCarried_1 : decode cX8_partsCarried 1 = .ok (.iload_n 1, 1) := by decide +kernel
theorem dX8_partsCarried_2 : decode cX8_partsCarried 2 = .ok (.iload_n 3, 1) := by decide +kernel
theorem dX8_partsCarried_3 : decode cX8_partsCarried 3 = .ok (.iconst 0, 1) := by decide +kernel
theorem dX8_partsCarried_4 : decode cX8_partsCarried 4 = .ok (.invokevirtual 276, 3) := by decide +kernel
theorem dX8_partsCarried_7 : decode cX8_partsCarried 7 = .ok (.iconst 0, 1) := by decide +kernel
theorem dX8_partsCarried_8 : decode cX8_partsCarried 8 = .ok (.istore 4, 2) := by decide +kernel
theorem dX8_partsCarried_10 : decode cX8_partsCarried 10 = .ok (.iload 4, 2) := by decide +kernel
theorem dX8_partsCarried_12 : decode cX8_partsCarried 12 = .ok (.iload_n 3, 1) := by decide +kernel
theorem dX8_partsCarried_13 : decode cX8_partsCarried 13 = .ok (.if_icmp .gt 17, 3) := by decide +kernel
theorem dX8_partsCarried_16 : decode cX8_partsCarried 16 = .ok (.aload_n 0, 1) := by decide +kernel
theorem dX8_partsCarried_17 : decode cX8_partsCarried 17 = .ok (.getfield 40, 3) := by decide +kernel
theorem dX8_partsCarried_20 : decode cX8_partsCarried 20 = .ok (.iload 4, 2) := by decide +kernel
theorem dX8_partsCarried_22 : decode cX8_partsCarried 22 = .ok (.iconst 0, 1) := by decide +kernel
theorem dX8_partsCarried_23 : decode cX8_partsCarried 23 = .ok (.iastore, 1) := by decide +kernel
theorem dX8_partsCarried_24 : decode cX8_partsCarried 24 = .ok (.iinc 4 1, 3) := by decide +kernel
theorem dX8_partsCarried_27 : decode cX8_partsCarried 27 = .ok (.goto (-17), 3) := by decide +kernel
theorem dX8_partsCarried_30 : decode cX8_partsCarried 30 = .ok (.iconst 0, 1) := by decide +kernel
theorem dX8_partsCarried_31 : decode cX8_partsCarried 31 = .ok (.istore 4, 2) := by decide +kernel
theorem dX8_partsCarried_33 : decode cX8_partsCarried 33 = .ok (.iload 4, 2) := by decide +kernel
theorem dX8_partsCarried_35 : decode cX8_partsCarried 35 = .ok (.iconst 1, 1) := by decide +kernel
theorem dX8_partsCarried_36 : decode cX8_partsCarried 36 = .ok (.iload_n 3, 1) := by decide +kernel
theorem dX8_partsCarried_37 : decode cX8_partsCarried 37 = .ok (.ishl, 1) := by decide +kernel
theorem dX8_partsCarried_38 : decode cX8_partsCarried 38 = .ok (.if_icmp .ge 33, 3) := by decide +kernel
theorem dX8_partsCarried_41 : decode cX8_partsCarried 41 = .ok (.aload_n 0, 1) := by decide +kernel
theorem dX8_partsCarried_42 : decode cX8_partsCarried 42 = .ok (.getfield 36, 3) := by decide +kernel
theorem dX8_partsCarried_45 : decode cX8_partsCarried 45 = .ok (.iload 4, 2) := by decide +kernel
theorem dX8_partsCarried_47 : decode cX8_partsCarried 47 = .ok (.iaload, 1) := by decide +kernel
theorem dX8_partsCarried_48 : decode cX8_partsCarried 48 = .ok (.ifCond .le 17, 3) := by decide +kernel
theorem dX8_partsCarried_51 : decode cX8_partsCarried 51 = .ok (.aload_n 0, 1) := by decide +kernel
theorem dX8_partsCarried_52 : decode cX8_partsCarried 52 = .ok (.getfield 40, 3) := by decide +kernel
theorem dX8_partsCarried_55 : decode cX8_partsCarried 55 = .ok (.iload 4, 2) := by decide +kernel
theorem dX8_partsCarried_57 : decode cX8_partsCarried 57 = .ok (.invokestatic 280, 3) := by decide +kernel
theorem dX8_partsCarried_60 : decode cX8_partsCarried 60 = .ok (.dup2, 1) := by decide +kernel
theorem dX8_partsCarried_61 : decode cX8_partsCarried 61 = .ok (.iaload, 1) := by decide +kernel
theorem dX8_partsCarried_62 : decode cX8_partsCarried 62 = .ok (.iconst 1, 1) := by decide +kernel
theorem dX8_partsCarried_63 : decode cX8_partsCarried 63 = .ok (.iadd, 1) := by decide +kernel
theorem dX8_partsCarried_64 : decode cX8_partsCarried 64 = .ok (.iastore, 1) := by decide +kernel
theorem dX8_partsCarried_65 : decode cX8_partsCarried 65 = .ok (.iinc 4 1, 3) := by decide +kernel
theorem dX8_partsCarried_68 : decode cX8_partsCarried 68 = .ok (.goto (-35), 3) := by decide +kernel
theorem dX8_partsCarried_71 : decode cX8_partsCarried 71 = .ok (.iconst 0, 1) := by decide +kernel
theorem dX8_partsCarried_72 : decode cX8_partsCarried 72 = .ok (.istore 4, 2) := by decide +kernel
theorem dX8_partsCarried_74 : decode cX8_partsCarried 74 = .ok (.iconst 0, 1) := by decide +kernel
theorem dX8_partsCarried_75 : decode cX8_partsCarried 75 = .ok (.istore 5, 2) := by decide +kernel
theorem dX8_partsCarried_77 : decode cX8_partsCarried 77 = .ok (.iload 5, 2) := by decide +kernel
theorem dX8_partsCarried_79 : decode cX8_partsCarried 79 = .ok (.iload_n 3, 1) := by decide +kernel
theorem dX8_partsCarried_80 : decode cX8_partsCarried 80 = .ok (.if_icmp .gt 40, 3) := by decide +kernel
theorem dX8_partsCarried_83 : decode cX8_partsCarried 83 = .ok (.iload 4, 2) := by decide +kernel
theorem dX8_partsCarried_85 : decode cX8_partsCarried 85 = .ok (.aload_n 0, 1) := by decide +kernel
theorem dX8_partsCarried_86 : decode cX8_partsCarried 86 = .ok (.getfield 40, 3) := by decide +kernel
theorem dX8_partsCarried_89 : decode cX8_partsCarried 89 = .ok (.iload 5, 2) := by decide +kernel
theorem dX8_partsCarried_91 : decode cX8_partsCarried 91 = .ok (.iaload, 1) := by decide +kernel
theorem dX8_partsCarried_92 : decode cX8_partsCarried 92 = .ok (.bipush 10, 2) := by decide +kernel
theorem dX8_partsCarried_94 : decode cX8_partsCarried 94 = .ok (.iload_n 2, 1) := by decide +kernel
theorem dX8_partsCarried_95 : decode cX8_partsCarried 95 = .ok (.isub, 1) := by decide +kernel
theorem dX8_partsCarried_96 : decode cX8_partsCarried 96 = .ok (.iload 5, 2) := by decide +kernel
theorem dX8_partsCarried_98 : decode cX8_partsCarried 98 = .ok (.invokestatic 185, 3) := by decide +kernel
theorem dX8_partsCarried_101 : decode cX8_partsCarried 101 = .ok (.imul, 1) := by decide +kernel
theorem dX8_partsCarried_102 : decode cX8_partsCarried 102 = .ok (.iload_n 2, 1) := by decide +kernel
theorem dX8_partsCarried_103 : decode cX8_partsCarried 103 = .ok (.iload_n 3, 1) := by decide +kernel
theorem dX8_partsCarried_104 : decode cX8_partsCarried 104 = .ok (.iload 5, 2) := by decide +kernel
theorem dX8_partsCarried_106 : decode cX8_partsCarried 106 = .ok (.isub, 1) := by decide +kernel
theorem dX8_partsCarried_107 : decode cX8_partsCarried 107 = .ok (.invokestatic 185, 3) := by decide +kernel
theorem dX8_partsCarried_110 : decode cX8_partsCarried 110 = .ok (.imul, 1) := by decide +kernel
theorem dX8_partsCarried_111 : decode cX8_partsCarried 111 = .ok (.iadd, 1) := by decide +kernel
theorem dX8_partsCarried_112 : decode cX8_partsCarried 112 = .ok (.istore 4, 2) := by decide +kernel
theorem dX8_partsCarried_114 : decode cX8_partsCarried 114 = .ok (.iinc 5 1, 3) := by decide +kernel
theorem dX8_partsCarried_117 : decode cX8_partsCarried 117 = .ok (.goto (-40), 3) := by decide +kernel
theorem dX8_partsCarried_120 : decode cX8_partsCarried 120 = .ok (.iload 4, 2) := by decide +kernel
theorem dX8_partsCarried_122 : decode cX8_partsCarried 122 = .ok (.ireturn, 1) := by decide +kernel
theorem dX8_fillSubsetSums_0 : decode cX8_fillSubsetSums 0 = .ok (.aload_n 0, 1) := by decide +kernel
theorem dX8_fillSubsetSums_1 : decode cX8_fillSubsetSums 1 = .ok (.getfield 36, 3) := by decide +kernel
theorem dX8_fillSubsetSums_4 : decode cX8_fillSubsetSums 4 = .ok (.iconst 0, 1) := by decide +kernel
theorem dX8_fillSubsetSums_5 : decode cX8_fillSubsetSums 5 = .ok (.iconst 0, 1) := by decide +kernel
theorem dX8_fillSubsetSums_6 : decode cX8_fillSubsetSums 6 = .ok (.iastore, 1) := by decide +kernel
theorem dX8_fillSubsetSums_7 : decode cX8_fillSubsetSums 7 = .ok (.iconst 0, 1) := by decide +kernel
theorem dX8_fillSubsetSums_8 : decode cX8_fillSubsetSums 8 = .ok (.istore 4, 2) := by decide +kernel
theorem dX8_fillSubsetSums_10 : decode cX8_fillSubsetSums 10 = .ok (.iload 4, 2) := by decide +kernel
theorem dX8_fillSubsetSums_12 : decode cX8_fillSubsetSums 12 = .ok (.iload_n 2, 1) := by decide +kernel
theorem dX8_fillSubsetSums_13 : decode cX8_fillSubsetSums 13 = .ok (.if_icmp .ge 79, 3) := by decide +kernel
theorem dX8_fillSubsetSums_16 : decode cX8_fillSubsetSums 16 = .ok (.aload_n 0, 1) := by decide +kernel
theorem dX8_fillSubsetSums_17 : decode cX8_fillSubsetSums 17 = .ok (.getfield 19, 3) := by decide +kernel
theorem dX8_fillSubsetSums_20 : decode cX8_fillSubsetSums 20 = .ok (.aload_n 0, 1) := by decide +kernel
theorem dX8_fillSubsetSums_21 : decode cX8_fillSubsetSums 21 = .ok (.getfield 26, 3) := by decide +kernel
theorem dX8_fillSubsetSums_24 : decode cX8_fillSubsetSums 24 = .ok (.iload 4, 2) := by decide +kernel
theorem dX8_fillSubsetSums_26 : decode cX8_fillSubsetSums 26 = .ok (.iload_n 1, 1) := by decide +kernel
theorem dX8_fillSubsetSums_27 : decode cX8_fillSubsetSums 27 = .ok (.invokevirtual 104, 3) := by decide +kernel
theorem dX8_fillSubsetSums_30 : decode cX8_fillSubsetSums 30 = .ok (.istore 5, 2) := by decide +kernel
theorem dX8_fillSubsetSums_32 : decode cX8_fillSubsetSums 32 = .ok (.iload_n 3, 1) := by decide +kernel
theorem dX8_fillSubsetSums_33 : decode cX8_fillSubsetSums 33 = .ok (.ifCond .eq 11, 3) := by decide +kernel
theorem dX8_fillSubsetSums_36 : decode cX8_fillSubsetSums 36 = .ok (.iload 5, 2) := by decide +kernel
theorem dX8_fillSubsetSums_38 : decode cX8_fillSubsetSums 38 = .ok (.ifCond .ge 6, 3) := by decide +kernel
theorem dX8_fillSubsetSums_41 : decode cX8_fillSubsetSums 41 = .ok (.iconst 0, 1) := by decide +kernel
theorem dX8_fillSubsetSums_42 : decode cX8_fillSubsetSums 42 = .ok (.istore 5, 2) := by decide +kernel
theorem dX8_fillSubsetSums_44 : decode cX8_fillSubsetSums 44 = .ok (.iconst 1, 1) := by decide +kernel
theorem dX8_fillSubsetSums_45 : decode cX8_fillSubsetSums 45 = .ok (.iload 4, 2) := by decide +kernel
theorem dX8_fillSubsetSums_47 : decode cX8_fillSubsetSums 47 = .ok (.ishl, 1) := by decide +kernel
theorem dX8_fillSubsetSums_48 : decode cX8_fillSubsetSums 48 = .ok (.istore 6, 2) := by decide +kernel
theorem dX8_fillSubsetSums_50 : decode cX8_fillSubsetSums 50 = .ok (.iconst 0, 1) := by decide +kernel
theorem dX8_fillSubsetSums_51 : decode cX8_fillSubsetSums 51 = .ok (.istore 7, 2) := by decide +kernel
theorem dX8_fillSubsetSums_53 : decode cX8_fillSubsetSums 53 = .ok (.iload 7, 2) := by decide +kernel
theorem dX8_fillSubsetSums_55 : decode cX8_fillSubsetSums 55 = .ok (.iload 6, 2) := by decide +kernel
theorem dX8_fillSubsetSums_57 : decode cX8_fillSubsetSums 57 = .ok (.if_icmp .ge 29, 3) := by decide +kernel
theorem dX8_fillSubsetSums_60 : decode cX8_fillSubsetSums 60 = .ok (.aload_n 0, 1) := by decide +kernel
theorem dX8_fillSubsetSums_61 : decode cX8_fillSubsetSums 61 = .ok (.getfield 36, 3) := by decide +kernel
theorem dX8_fillSubsetSums_64 : decode cX8_fillSubsetSums 64 = .ok (.iload 6, 2) := by decide +kernel
theorem dX8_fillSubsetSums_66 : decode cX8_fillSubsetSums 66 = .ok (.iload 7, 2) := by decide +kernel
theorem dX8_fillSubsetSums_68 : decode cX8_fillSubsetSums 68 = .ok (.iadd, 1) := by decide +kernel
theorem dX8_fillSubsetSums_69 : decode cX8_fillSubsetSums 69 = .ok (.aload_n 0, 1) := by decide +kernel
theorem dX8_fillSubsetSums_70 : decode cX8_fillSubsetSums 70 = .ok (.getfield 36, 3) := by decide +kernel
theorem dX8_fillSubsetSums_73 : decode cX8_fillSubsetSums 73 = .ok (.iload 7, 2) := by decide +kernel
theorem dX8_fillSubsetSums_75 : decode cX8_fillSubsetSums 75 = .ok (.iaload, 1) := by decide +kernel
theorem dX8_fillSubsetSums_76 : decode cX8_fillSubsetSums 76 = .ok (.iload 5, 2) := by decide +kernel
theorem dX8_fillSubsetSums_78 : decode cX8_fillSubsetSums 78 = .ok (.iadd, 1) := by decide +kernel
theorem dX8_fillSubsetSums_79 : decode cX8_fillSubsetSums 79 = .ok (.iastore, 1) := by decide +kernel
theorem dX8_fillSubsetSums_80 : decode cX8_fillSubsetSums 80 = .ok (.iinc 7 1, 3) := by decide +kernel
theorem dX8_fillSubsetSums_83 : decode cX8_fillSubsetSums 83 = .ok (.goto (-30), 3) := by decide +kernel
theorem dX8_fillSubsetSums_86 : decode cX8_fillSubsetSums 86 = .ok (.iinc 4 1, 3) := by decide +kernel
theorem dX8_fillSubsetSums_89 : decode cX8_fillSubsetSums 89 = .ok (.goto (-79), 3) := by decide +kernel
theorem dX8_fillSubsetSums_92 : decode cX8_fillSubsetSums 92 = .ok (.return_, 1) := by decide +kernel
theorem dX8_power_0 : decode cX8_power 0 = .ok (.iconst 1, 1) := by decide +kernel
theorem dX8_power_1 : decode cX8_power 1 = .ok (.istore_n 2, 1) := by decide +kernel
theorem dX8_power_2 : decode cX8_power 2 = .ok (.iconst 0, 1) := by decide +kernel
theorem dX8_power_3 : decode cX8_power 3 = .ok (.istore_n 3, 1) := by decide +kernel
theorem dX8_power_4 : decode cX8_power 4 = .ok (.iload_n 3, 1) := by decide +kernel
theorem dX8_power_5 : decode cX8_power 5 = .ok (.iload_n 1, 1) := by decide +kernel
theorem dX8_power_6 : decode cX8_power 6 = .ok (.if_icmp .ge 13, 3) := by decide +kernel
theorem dX8_power_9 : decode cX8_power 9 = .ok (.iload_n 2, 1) := by decide +kernel
theorem dX8_power_10 : decode cX8_power 10 = .ok (.iload_n 0, 1) := by decide +kernel
theorem dX8_power_11 : decode cX8_power 11 = .ok (.imul, 1) := by decide +kernel
theorem dX8_power_12 : decode cX8_power 12 = .ok (.istore_n 2, 1) := by decide +kernel
theorem dX8_power_13 : decode cX8_power 13 = .ok (.iinc 3 1, 3) := by decide +kernel
theorem dX8_power_16 : decode cX8_power 16 = .ok (.goto (-12), 3) := by decide +kernel
theorem dX8_power_19 : decode cX8_power 19 = .ok (.iload_n 2, 1) := by decide +kernel
theorem dX8_power_20 : decode cX8_power 20 = .ok (.ireturn, 1) := by decide +kernel
theorem dX8_inLowestTerms_0 : decode cX8_inLowestTerms 0 = .ok (.iload_n 0, 1) := by decide +kernel
theorem dX8_inLowestTerms_1 : decode cX8_inLowestTerms 1 = .ok (.iload_n 1, 1) := by decide +kernel
theorem dX8_inLowestTerms_2 : decode cX8_inLowestTerms 2 = .ok (.invokestatic 285, 3) := by decide +kernel
theorem dX8_inLowestTerms_5 : decode cX8_inLowestTerms 5 = .ok (.istore_n 3, 1) := by decide +kernel
theorem dX8_inLowestTerms_6 : decode cX8_inLowestTerms 6 = .ok (.iload_n 3, 1) := by decide +kernel
theorem dX8_inLowestTerms_7 : decode cX8_inLowestTerms 7 = .ok (.ifCond .ne 5, 3) := by decide +kernel
theorem dX8_inLowestTerms_10 : decode cX8_inLowestTerms 10 = .ok (.iload_n 2, 1) := by decide +kernel
theorem dX8_inLowestTerms_11 : decode cX8_inLowestTerms 11 = .ok (.ireturn, 1) := by decide +kernel
theorem dX8_inLowestTerms_12 : decode cX8_inLowestTerms 12 = .ok (.iload_n 2, 1) := by decide +kernel
theorem dX8_inLowestTerms_13 : decode cX8_inLowestTerms 13 = .ok (.ifCond .ne 7, 3) := by decide +kernel
theorem dX8_inLowestTerms_16 : decode cX8_inLowestTerms 16 = .ok (.iload_n 0, 1) := by decide +kernel
theorem dX8_inLowestTerms_17 : decode cX8_inLowestTerms 17 = .ok (.goto 4, 3) := by decide +kernel
theorem dX8_inLowestTerms_20 : decode cX8_inLowestTerms 20 = .ok (.iload_n 1, 1) := by decide +kernel
theorem dX8_inLowestTerms_21 : decode cX8_inLowestTerms 21 = .ok (.iload_n 3, 1) := by decide +kernel
theorem dX8_inLowestTerms_22 : decode cX8_inLowestTerms 22 = .ok (.idiv, 1) := by decide +kernel
theorem dX8_inLowestTerms_23 : decode cX8_inLowestTerms 23 = .ok (.ireturn, 1) := by decide +kernel
theorem dX8_greatestDivisor_0 : decode cX8_greatestDivisor 0 = .ok (.iload_n 0, 1) := by decide +kernel
theorem dX8_greatestDivisor_1 : decode cX8_greatestDivisor 1 = .ok (.istore_n 2, 1) := by decide +kernel
theorem dX8_greatestDivisor_2 : decode cX8_greatestDivisor 2 = .ok (.iload_n 1, 1) := by decide +kernel
theorem dX8_greatestDivisor_3 : decode cX8_greatestDivisor 3 = .ok (.istore_n 3, 1) := by decide +kernel
theorem dX8_greatestDivisor_4 : decode cX8_greatestDivisor 4 = .ok (.iconst 0, 1) := by decide +kernel
theorem dX8_greatestDivisor_5 : decode cX8_greatestDivisor 5 = .ok (.istore 4, 2) := by decide +kernel
theorem dX8_greatestDivisor_7 : decode cX8_greatestDivisor 7 = .ok (.iload 4, 2) := by decide +kernel
theorem dX8_greatestDivisor_9 : decode cX8_greatestDivisor 9 = .ok (.bipush 64, 2) := by decide +kernel
theorem dX8_greatestDivisor_11 : decode cX8_greatestDivisor 11 = .ok (.if_icmp .ge 23, 3) := by decide +kernel
theorem dX8_greatestDivisor_14 : decode cX8_greatestDivisor 14 = .ok (.iload_n 3, 1) := by decide +kernel
theorem dX8_greatestDivisor_15 : decode cX8_greatestDivisor 15 = .ok (.ifCond .eq 19, 3) := by decide +kernel
theorem dX8_greatestDivisor_18 : decode cX8_greatestDivisor 18 = .ok (.iload_n 2, 1) := by decide +kernel
theorem dX8_greatestDivisor_19 : decode cX8_greatestDivisor 19 = .ok (.iload_n 3, 1) := by decide +kernel
theorem dX8_greatestDivisor_20 : decode cX8_greatestDivisor 20 = .ok (.irem, 1) := by decide +kernel
theorem dX8_greatestDivisor_21 : decode cX8_greatestDivisor 21 = .ok (.istore 5, 2) := by decide +kernel
theorem dX8_greatestDivisor_23 : decode cX8_greatestDivisor 23 = .ok (.iload_n 3, 1) := by decide +kernel
theorem dX8_greatestDivisor_24 : decode cX8_greatestDivisor 24 = .ok (.istore_n 2, 1) := by decide +kernel
theorem dX8_greatestDivisor_25 : decode cX8_greatestDivisor 25 = .ok (.iload 5, 2) := by decide +kernel
theorem dX8_greatestDivisor_27 : decode cX8_greatestDivisor 27 = .ok (.istore_n 3, 1) := by decide +kernel
theorem dX8_greatestDivisor_28 : decode cX8_greatestDivisor 28 = .ok (.iinc 4 1, 3) := by decide +kernel
theorem dX8_greatestDivisor_31 : decode cX8_greatestDivisor 31 = .ok (.goto (-24), 3) := by decide +kernel
theorem dX8_greatestDivisor_34 : decode cX8_greatestDivisor 34 = .ok (.iload_n 2, 1) := by decide +kernel
theorem dX8_greatestDivisor_35 : decode cX8_greatestDivisor 35 = .ok (.ireturn, 1) := by decide +kernel
theorem dX8_fewestCut_0 : decode cX8_fewestCut 0 = .ok (.aload_n 0, 1) := by decide +kernel
theorem dX8_fewestCut_1 : decode cX8_fewestCut 1 = .ok (.getfield 19, 3) := by decide +kernel
theorem dX8_fewestCut_4 : decode cX8_fewestCut 4 = .ok (.aload_n 0, 1) := by decide +kernel
theorem dX8_fewestCut_5 : decode cX8_fewestCut 5 = .ok (.getfield 26, 3) := by decide +kernel
theorem dX8_fewestCut_8 : decode cX8_fewestCut 8 = .ok (.iload_n 1, 1) := by decide +kernel
theorem dX8_fewestCut_9 : decode cX8_fewestCut 9 = .ok (.invokevirtual 143, 3) := by decide +kernel
theorem dX8_fewestCut_12 : decode cX8_fewestCut 12 = .ok (.invokestatic 147, 3) := by decide +kernel
theorem dX8_fewestCut_15 : decode cX8_fewestCut 15 = .ok (.iload_n 2, 1) := by decide +kernel
theorem dX8_fewestCut_16 : decode cX8_fewestCut 16 = .ok (.if_icmp .ne 5, 3) := by decide +kernel
theorem dX8_fewestCut_19 : decode cX8_fewestCut 19 = .ok (.iconst 0, 1) := by decide +kernel
theorem dX8_fewestCut_20 : decode cX8_fewestCut 20 = .ok (.ireturn, 1) := by decide +kernel
theorem dX8_fewestCut_21 : decode cX8_fewestCut 21 = .ok (.aload_n 0, 1) := by decide +kernel
theorem dX8_fewestCut_22 : decode cX8_fewestCut 22 = .ok (.getfield 33, 3) := by decide +kernel
theorem dX8_fewestCut_25 : decode cX8_fewestCut 25 = .ok (.aload_n 0, 1) := by decide +kernel
theorem dX8_fewestCut_26 : decode cX8_fewestCut 26 = .ok (.getfield 26, 3) := by decide +kernel
theorem dX8_fewestCut_29 : decode cX8_fewestCut 29 = .ok (.invokevirtual 213, 3) := by decide +kernel
theorem dX8_fewestCut_32 : decode cX8_fewestCut 32 = .ok (.aload_n 0, 1) := by decide +kernel
theorem dX8_fewestCut_33 : decode cX8_fewestCut 33 = .ok (.getfield 19, 3) := by decide +kernel
theorem dX8_fewestCut_36 : decode cX8_fewestCut 36 = .ok (.aload_n 0, 1) := by decide +kernel
theorem dX8_fewestCut_37 : decode cX8_fewestCut 37 = .ok (.getfield 26, 3) := by decide +kernel
theorem dX8_fewestCut_40 : decode cX8_fewestCut 40 = .ok (.invokevirtual 120, 3) := by decide +kernel
theorem dX8_fewestCut_43 : decode cX8_fewestCut 43 = .ok (.istore_n 3, 1) := by decide +kernel
theorem dX8_fewestCut_44 : decode cX8_fewestCut 44 = .ok (.iconst 0, 1) := by decide +kernel
theorem dX8_fewestCut_45 : decode cX8_fewestCut 45 = .ok (.istore 4, 2) := by decide +kernel
theorem dX8_fewestCut_47 : decode cX8_fewestCut 47 = .ok (.iload 4, 2) := by decide +kernel
theorem dX8_fewestCut_49 : decode cX8_fewestCut 49 = .ok (.iload_n 3, 1) := by decide +kernel
theorem dX8_fewestCut_50 : decode cX8_fewestCut 50 = .ok (.if_icmp .ge 55, 3) := by decide +kernel
theorem dX8_fewestCut_53 : decode cX8_fewestCut 53 = .ok (.aload_n 0, 1) := by decide +kernel
theorem dX8_fewestCut_54 : decode cX8_fewestCut 54 = .ok (.getfield 33, 3) := by decide +kernel
theorem dX8_fewestCut_57 : decode cX8_fewestCut 57 = .ok (.getfield 124, 3) := by decide +kernel
theorem dX8_fewestCut_60 : decode cX8_fewestCut 60 = .ok (.iload 4, 2) := by decide +kernel
theorem dX8_fewestCut_62 : decode cX8_fewestCut 62 = .ok (.iconst 1, 1) := by decide +kernel
theorem dX8_fewestCut_63 : decode cX8_fewestCut 63 = .ok (.iastore, 1) := by decide +kernel
theorem dX8_fewestCut_64 : decode cX8_fewestCut 64 = .ok (.aload_n 0, 1) := by decide +kernel
theorem dX8_fewestCut_65 : decode cX8_fewestCut 65 = .ok (.getfield 19, 3) := by decide +kernel
theorem dX8_fewestCut_68 : decode cX8_fewestCut 68 = .ok (.aload_n 0, 1) := by decide +kernel
theorem dX8_fewestCut_69 : decode cX8_fewestCut 69 = .ok (.getfield 33, 3) := by decide +kernel
theorem dX8_fewestCut_72 : decode cX8_fewestCut 72 = .ok (.iload_n 1, 1) := by decide +kernel
theorem dX8_fewestCut_73 : decode cX8_fewestCut 73 = .ok (.invokevirtual 143, 3) := by decide +kernel
theorem dX8_fewestCut_76 : decode cX8_fewestCut 76 = .ok (.invokestatic 147, 3) := by decide +kernel
theorem dX8_fewestCut_79 : decode cX8_fewestCut 79 = .ok (.iload_n 2, 1) := by decide +kernel
theorem dX8_fewestCut_80 : decode cX8_fewestCut 80 = .ok (.if_icmp .ne 8, 3) := by decide +kernel
theorem dX8_fewestCut_83 : decode cX8_fewestCut 83 = .ok (.iconst 1, 1) := by decide +kernel
theorem dX8_fewestCut_84 : decode cX8_fewestCut 84 = .ok (.iload 4, 2) := by decide +kernel
theorem dX8_fewestCut_86 : decode cX8_fewestCut 86 = .ok (.ishl, 1) := by decide +kernel
theorem dX8_fewestCut_87 : decode cX8_fewestCut 87 = .ok (.ireturn, 1) := by decide +kernel
theorem dX8_fewestCut_88 : decode cX8_fewestCut 88 = .ok (.aload_n 0, 1) := by decide +kernel
theorem dX8_fewestCut_89 : decode cX8_fewestCut 89 = .ok (.getfield 33, 3) := by decide +kernel
theorem dX8_fewestCut_92 : decode cX8_fewestCut 92 = .ok (.getfield 124, 3) := by decide +kernel
theorem dX8_fewestCut_95 : decode cX8_fewestCut 95 = .ok (.iload 4, 2) := by decide +kernel
theorem dX8_fewestCut_97 : decode cX8_fewestCut 97 = .ok (.iconst 0, 1) := by decide +kernel
theorem dX8_fewestCut_98 : decode cX8_fewestCut 98 = .ok (.iastore, 1) := by decide +kernel
theorem dX8_fewestCut_99 : decode cX8_fewestCut 99 = .ok (.iinc 4 1, 3) := by decide +kernel
theorem dX8_fewestCut_102 : decode cX8_fewestCut 102 = .ok (.goto (-55), 3) := by decide +kernel
theorem dX8_fewestCut_105 : decode cX8_fewestCut 105 = .ok (.iconst (-1), 1) := by decide +kernel
theorem dX8_fewestCut_106 : decode cX8_fewestCut 106 = .ok (.ireturn, 1) := by decide +kernel
theorem dX8_fewestTurned_0 : decode cX8_fewestTurned 0 = .ok (.aload_n 0, 1) := by decide +kernel
theorem dX8_fewestTurned_1 : decode cX8_fewestTurned 1 = .ok (.getfield 33, 3) := by decide +kernel
theorem dX8_fewestTurned_4 : decode cX8_fewestTurned 4 = .ok (.aload_n 0, 1) := by decide +kernel
theorem dX8_fewestTurned_5 : decode cX8_fewestTurned 5 = .ok (.getfield 26, 3) := by decide +kernel
theorem dX8_fewestTurned_8 : decode cX8_fewestTurned 8 = .ok (.invokevirtual 213, 3) := by decide +kernel
theorem dX8_fewestTurned_11 : decode cX8_fewestTurned 11 = .ok (.aload_n 0, 1) := by decide +kernel
theorem dX8_fewestTurned_12 : decode cX8_fewestTurned 12 = .ok (.getfield 19, 3) := by decide +kernel
theorem dX8_fewestTurned_15 : decode cX8_fewestTurned 15 = .ok (.aload_n 0, 1) := by decide +kernel
theorem dX8_fewestTurned_16 : decode cX8_fewestTurned 16 = .ok (.getfield 26, 3) := by decide +kernel
theorem dX8_fewestTurned_19 : decode cX8_fewestTurned 19 = .ok (.invokevirtual 120, 3) := by decide +kernel
theorem dX8_fewestTurned_22 : decode cX8_fewestTurned 22 = .ok (.istore_n 3, 1) := by decide +kernel
theorem dX8_fewestTurned_23 : decode cX8_fewestTurned 23 = .ok (.iconst 0, 1) := by decide +kernel
theorem dX8_fewestTurned_24 : decode cX8_fewestTurned 24 = .ok (.istore 4, 2) := by decide +kernel
theorem dX8_fewestTurned_26 : decode cX8_fewestTurned 26 = .ok (.iload 4, 2) := by decide +kernel
theorem dX8_fewestTurned_28 : decode cX8_fewestTurned 28 = .ok (.iload_n 3, 1) := by decide +kernel
theorem dX8_fewestTurned_29 : decode cX8_fewestTurned 29 = .ok (.if_icmp .gt 50, 3) := by decide +kernel
theorem dX8_fewestTurned_32 : decode cX8_fewestTurned 32 = .ok (.iconst 0, 1) := by decide +kernel
theorem dX8_fewestTurned_33 : decode cX8_fewestTurned 33 = .ok (.istore 5, 2) := by decide +kernel
theorem dX8_fewestTurned_35 : decode cX8_fewestTurned 35 = .ok (.iload 5, 2) := by decide +kernel
theorem dX8_fewestTurned_37 : decode cX8_fewestTurned 37 = .ok (.iconst 1, 1) := by decide +kernel
theorem dX8_fewestTurned_38 : decode cX8_fewestTurned 38 = .ok (.iload_n 3, 1) := by decide +kernel
theorem dX8_fewestTurned_39 : decode cX8_fewestTurned 39 = .ok (.ishl, 1) := by decide +kernel
theorem dX8_fewestTurned_40 : decode cX8_fewestTurned 40 = .ok (.if_icmp .ge 33, 3) := by decide +kernel
theorem dX8_fewestTurned_43 : decode cX8_fewestTurned 43 = .ok (.iload 5, 2) := by decide +kernel
theorem dX8_fewestTurned_45 : decode cX8_fewestTurned 45 = .ok (.invokestatic 280, 3) := by decide +kernel
theorem dX8_fewestTurned_48 : decode cX8_fewestTurned 48 = .ok (.iload 4, 2) := by decide +kernel
theorem dX8_fewestTurned_50 : decode cX8_fewestTurned 50 = .ok (.if_icmp .ne 17, 3) := by decide +kernel
theorem dX8_fewestTurned_53 : decode cX8_fewestTurned 53 = .ok (.aload_n 0, 1) := by decide +kernel
theorem dX8_fewestTurned_54 : decode cX8_fewestTurned 54 = .ok (.iload 5, 2) := by decide +kernel
theorem dX8_fewestTurned_56 : decode cX8_fewestTurned 56 = .ok (.iload_n 1, 1) := by decide +kernel
theorem dX8_fewestTurned_57 : decode cX8_fewestTurned 57 = .ok (.iload_n 2, 1) := by decide +kernel
theorem dX8_fewestTurned_58 : decode cX8_fewestTurned 58 = .ok (.invokevirtual 288, 3) := by decide +kernel
theorem dX8_fewestTurned_61 : decode cX8_fewestTurned 61 = .ok (.ifCond .eq 6, 3) := by decide +kernel
theorem dX8_fewestTurned_64 : decode cX8_fewestTurned 64 = .ok (.iload 5, 2) := by decide +kernel
theorem dX8_fewestTurned_66 : decode cX8_fewestTurned 66 = .ok (.ireturn, 1) := by decide +kernel
theorem dX8_fewestTurned_67 : decode cX8_fewestTurned 67 = .ok (.iinc 5 1, 3) := by decide +kernel
theorem dX8_fewestTurned_70 : decode cX8_fewestTurned 70 = .ok (.goto (-35), 3) := by decide +kernel
theorem dX8_fewestTurned_73 : decode cX8_fewestTurned 73 = .ok (.iinc 4 1, 3) := by decide +kernel
theorem dX8_fewestTurned_76 : decode cX8_fewestTurned 76 = .ok (.goto (-50), 3) := by decide +kernel
theorem dX8_fewestTurned_79 : decode cX8_fewestTurned 79 = .ok (.iconst (-1), 1) := by decide +kernel
theorem dX8_fewestTurned_80 : decode cX8_fewestTurned 80 = .ok (.ireturn, 1) := by decide +kernel
theorem dX8_comesOutTurned_0 : decode cX8_comesOutTurned 0 = .ok (.iconst 1, 1) := by decide +kernel
theorem dX8_comesOutTurned_1 : decode cX8_comesOutTurned 1 = .ok (.iload_n 1, 1) := by decide +kernel
theorem dX8_comesOutTurned_2 : decode cX8_comesOutTurned 2 = .ok (.invokestatic 280, 3) := by decide +kernel
theorem dX8_comesOutTurned_5 : decode cX8_comesOutTurned 5 = .ok (.ishl, 1) := by decide +kernel
theorem dX8_comesOutTurned_6 : decode cX8_comesOutTurned 6 = .ok (.istore 4, 2) := by decide +kernel
theorem dX8_comesOutTurned_8 : decode cX8_comesOutTurned 8 = .ok (.iconst 0, 1) := by decide +kernel
theorem dX8_comesOutTurned_9 : decode cX8_comesOutTurned 9 = .ok (.istore 5, 2) := by decide +kernel
theorem dX8_comesOutTurned_11 : decode cX8_comesOutTurned 11 = .ok (.iload 5, 2) := by decide +kernel
theorem dX8_comesOutTurned_13 : decode cX8_comesOutTurned 13 = .ok (.iload 4, 2) := by decide +kernel
theorem dX8_comesOutTurned_15 : decode cX8_comesOutTurned 15 = .ok (.if_icmp .ge 38, 3) := by decide +kernel
theorem dX8_comesOutTurned_18 : decode cX8_comesOutTurned 18 = .ok (.aload_n 0, 1) := by decide +kernel
theorem dX8_comesOutTurned_19 : decode cX8_comesOutTurned 19 = .ok (.iload_n 1, 1) := by decide +kernel
theorem dX8_comesOutTurned_20 : decode cX8_comesOutTurned 20 = .ok (.iload 5, 2) := by decide +kernel
theorem dX8_comesOutTurned_22 : decode cX8_comesOutTurned 22 = .ok (.iload_n 2, 1) := by decide +kernel
theorem dX8_comesOutTurned_23 : decode cX8_comesOutTurned 23 = .ok (.invokevirtual 292, 3) := by decide +kernel
theorem dX8_comesOutTurned_26 : decode cX8_comesOutTurned 26 = .ok (.aload_n 0, 1) := by decide +kernel
theorem dX8_comesOutTurned_27 : decode cX8_comesOutTurned 27 = .ok (.getfield 19, 3) := by decide +kernel
theorem dX8_comesOutTurned_30 : decode cX8_comesOutTurned 30 = .ok (.aload_n 0, 1) := by decide +kernel
theorem dX8_comesOutTurned_31 : decode cX8_comesOutTurned 31 = .ok (.getfield 33, 3) := by decide +kernel
theorem dX8_comesOutTurned_34 : decode cX8_comesOutTurned 34 = .ok (.iload_n 2, 1) := by decide +kernel
theorem dX8_comesOutTurned_35 : decode cX8_comesOutTurned 35 = .ok (.invokevirtual 143, 3) := by decide +kernel
theorem dX8_comesOutTurned_38 : decode cX8_comesOutTurned 38 = .ok (.invokestatic 147, 3) := by decide +kernel
theorem dX8_comesOutTurned_41 : decode cX8_comesOutTurned 41 = .ok (.iload_n 3, 1) := by decide +kernel
theorem dX8_comesOutTurned_42 : decode cX8_comesOutTurned 42 = .ok (.if_icmp .ne 5, 3) := by decide +kernel
theorem dX8_comesOutTurned_45 : decode cX8_comesOutTurned 45 = .ok (.iconst 1, 1) := by decide +kernel
theorem dX8_comesOutTurned_46 : decode cX8_comesOutTurned 46 = .ok (.ireturn, 1) := by decide +kernel
theorem dX8_comesOutTurned_47 : decode cX8_comesOutTurned 47 = .ok (.iinc 5 1, 3) := by decide +kernel
theorem dX8_comesOutTurned_50 : decode cX8_comesOutTurned 50 = .ok (.goto (-39), 3) := by decide +kernel
theorem dX8_comesOutTurned_53 : decode cX8_comesOutTurned 53 = .ok (.iconst 0, 1) := by decide +kernel
theorem dX8_comesOutTurned_54 : decode cX8_comesOutTurned 54 = .ok (.ireturn, 1) := by decide +kernel
theorem dX8_leanOtherwise_0 : decode cX8_leanOtherwise 0 = .ok (.iload_n 2, 1) := by decide +kernel
theorem dX8_leanOtherwise_1 : decode cX8_leanOtherwise 1 = .ok (.istore 4, 2) := by decide +kernel
theorem dX8_leanOtherwise_3 : decode cX8_leanOtherwise 3 = .ok (.iconst 0, 1) := by decide +kernel
theorem dX8_leanOtherwise_4 : decode cX8_leanOtherwise 4 = .ok (.istore 5, 2) := by decide +kernel
theorem dX8_leanOtherwise_6 : decode cX8_leanOtherwise 6 = .ok (.iload 5, 2) := by decide +kernel
theorem dX8_leanOtherwise_8 : decode cX8_leanOtherwise 8 = .ok (.aload_n 0, 1) := by decide +kernel
theorem dX8_leanOtherwise_9 : decode cX8_leanOtherwise 9 = .ok (.getfield 19, 3) := by decide +kernel
theorem dX8_leanOtherwise_12 : decode cX8_leanOtherwise 12 = .ok (.getfield 68, 3) := by decide +kernel
theorem dX8_leanOtherwise_15 : decode cX8_leanOtherwise 15 = .ok (.if_icmp .ge 68, 3) := by decide +kernel
theorem dX8_leanOtherwise_18 : decode cX8_leanOtherwise 18 = .ok (.aload_n 0, 1) := by decide +kernel
theorem dX8_leanOtherwise_19 : decode cX8_leanOtherwise 19 = .ok (.getfield 26, 3) := by decide +kernel
theorem dX8_leanOtherwise_22 : decode cX8_leanOtherwise 22 = .ok (.getfield 85, 3) := by decide +kernel
theorem dX8_leanOtherwise_25 : decode cX8_leanOtherwise 25 = .ok (.iload_n 3, 1) := by decide +kernel
theorem dX8_leanOtherwise_26 : decode cX8_leanOtherwise 26 = .ok (.aaload, 1) := by decide +kernel
theorem dX8_leanOtherwise_27 : decode cX8_leanOtherwise 27 = .ok (.iload 5, 2) := by decide +kernel
theorem dX8_leanOtherwise_29 : decode cX8_leanOtherwise 29 = .ok (.iaload, 1) := by decide +kernel
theorem dX8_leanOtherwise_30 : decode cX8_leanOtherwise 30 = .ok (.istore 6, 2) := by decide +kernel
theorem dX8_leanOtherwise_32 : decode cX8_leanOtherwise 32 = .ok (.iload_n 1, 1) := by decide +kernel
theorem dX8_leanOtherwise_33 : decode cX8_leanOtherwise 33 = .ok (.iload 5, 2) := by decide +kernel
theorem dX8_leanOtherwise_35 : decode cX8_leanOtherwise 35 = .ok (.ishr, 1) := by decide +kernel
theorem dX8_leanOtherwise_36 : decode cX8_leanOtherwise 36 = .ok (.iconst 1, 1) := by decide +kernel
theorem dX8_leanOtherwise_37 : decode cX8_leanOtherwise 37 = .ok (.iand, 1) := by decide +kernel
theorem dX8_leanOtherwise_38 : decode cX8_leanOtherwise 38 = .ok (.iconst 1, 1) := by decide +kernel
theorem dX8_leanOtherwise_39 : decode cX8_leanOtherwise 39 = .ok (.if_icmp .ne 24, 3) := by decide +kernel
theorem dX8_leanOtherwise_42 : decode cX8_leanOtherwise 42 = .ok (.iload 6, 2) := by decide +kernel
theorem dX8_leanOtherwise_44 : decode cX8_leanOtherwise 44 = .ok (.iconst 2, 1) := by decide +kernel
theorem dX8_leanOtherwise_45 : decode cX8_leanOtherwise 45 = .ok (.iadd, 1) := by decide +kernel
theorem dX8_leanOtherwise_46 : decode cX8_leanOtherwise 46 = .ok (.iload 4, 2) := by decide +kernel
theorem dX8_leanOtherwise_48 : decode cX8_leanOtherwise 48 = .ok (.iconst 1, 1) := by decide +kernel
theorem dX8_leanOtherwise_49 : decode cX8_leanOtherwise 49 = .ok (.iand, 1) := by decide +kernel
theorem dX8_leanOtherwise_50 : decode cX8_leanOtherwise 50 = .ok (.iadd, 1) := by decide +kernel
theorem dX8_leanOtherwise_51 : decode cX8_leanOtherwise 51 = .ok (.iconst 3, 1) := by decide +kernel
theorem dX8_leanOtherwise_52 : decode cX8_leanOtherwise 52 = .ok (.irem, 1) := by decide +kernel
theorem dX8_leanOtherwise_53 : decode cX8_leanOtherwise 53 = .ok (.iconst 1, 1) := by decide +kernel
theorem dX8_leanOtherwise_54 : decode cX8_leanOtherwise 54 = .ok (.isub, 1) := by decide +kernel
theorem dX8_leanOtherwise_55 : decode cX8_leanOtherwise 55 = .ok (.istore 6, 2) := by decide +kernel
theorem dX8_leanOtherwise_57 : decode cX8_leanOtherwise 57 = .ok (.iload 4, 2) := by decide +kernel
theorem dX8_leanOtherwise_59 : decode cX8_leanOtherwise 59 = .ok (.iconst 1, 1) := by decide +kernel
theorem dX8_leanOtherwise_60 : decode cX8_leanOtherwise 60 = .ok (.ishr, 1) := by decide +kernel
theorem dX8_leanOtherwise_61 : decode cX8_leanOtherwise 61 = .ok (.istore 4, 2) := by decide +kernel
theorem dX8_leanOtherwise_63 : decode cX8_leanOtherwise 63 = .ok (.aload_n 0, 1) := by decide +kernel
theorem dX8_leanOtherwise_64 : decode cX8_leanOtherwise 64 = .ok (.getfield 33, 3) := by decide +kernel
theorem dX8_leanOtherwise_67 : decode cX8_leanOtherwise 67 = .ok (.getfield 85, 3) := by decide +kernel
theorem dX8_leanOtherwise_70 : decode cX8_leanOtherwise 70 = .ok (.iload_n 3, 1) := by decide +kernel
theorem dX8_leanOtherwise_71 : decode cX8_leanOtherwise 71 = .ok (.aaload, 1) := by decide +kernel
theorem dX8_leanOtherwise_72 : decode cX8_leanOtherwise 72 = .ok (.iload 5, 2) := by decide +kernel
theorem dX8_leanOtherwise_74 : decode cX8_leanOtherwise 74 = .ok (.iload 6, 2) := by decide +kernel
theorem dX8_leanOtherwise_76 : decode cX8_leanOtherwise 76 = .ok (.iastore, 1) := by decide +kernel
theorem dX8_leanOtherwise_77 : decode cX8_leanOtherwise 77 = .ok (.iinc 5 1, 3) := by decide +kernel
theorem dX8_leanOtherwise_80 : decode cX8_leanOtherwise 80 = .ok (.goto (-74), 3) := by decide +kernel
theorem dX8_leanOtherwise_83 : decode cX8_leanOtherwise 83 = .ok (.return_, 1) := by decide +kernel
theorem dX8_toldOfBits_0 : decode cX8_toldOfBits 0 = .ok (.iload_n 0, 1) := by decide +kernel
theorem dX8_toldOfBits_1 : decode cX8_toldOfBits 1 = .ok (.iconst (-1), 1) := by decide +kernel
theorem dX8_toldOfBits_2 : decode cX8_toldOfBits 2 = .ok (.if_icmp .ne 5, 3) := by decide +kernel
theorem dX8_toldOfBits_5 : decode cX8_toldOfBits 5 = .ok (.iconst (-1), 1) := by decide +kernel
theorem dX8_toldOfBits_6 : decode cX8_toldOfBits 6 = .ok (.ireturn, 1) := by decide +kernel
theorem dX8_toldOfBits_7 : decode cX8_toldOfBits 7 = .ok (.iload_n 1, 1) := by decide +kernel
theorem dX8_toldOfBits_8 : decode cX8_toldOfBits 8 = .ok (.ifCond .ne 10, 3) := by decide +kernel
theorem dX8_toldOfBits_11 : decode cX8_toldOfBits 11 = .ok (.iload_n 0, 1) := by decide +kernel
theorem dX8_toldOfBits_12 : decode cX8_toldOfBits 12 = .ok (.invokestatic 280, 3) := by decide +kernel
theorem dX8_toldOfBits_15 : decode cX8_toldOfBits 15 = .ok (.goto 4, 3) := by decide +kernel
theorem dX8_toldOfBits_18 : decode cX8_toldOfBits 18 = .ok (.iload_n 0, 1) := by decide +kernel
theorem dX8_toldOfBits_19 : decode cX8_toldOfBits 19 = .ok (.ireturn, 1) := by decide +kernel
theorem dX8_tidesTillAgain_0 : decode cX8_tidesTillAgain 0 = .ok (.aload_n 0, 1) := by decide +kernel
theorem dX8_tidesTillAgain_1 : decode cX8_tidesTillAgain 1 = .ok (.getfield 33, 3) := by decide +kernel
theorem dX8_tidesTillAgain_4 : decode cX8_tidesTillAgain 4 = .ok (.aload_n 0, 1) := by decide +kernel
theorem dX8_tidesTillAgain_5 : decode cX8_tidesTillAgain 5 = .ok (.getfield 26, 3) := by decide +kernel
theorem dX8_tidesTillAgain_8 : decode cX8_tidesTillAgain 8 = .ok (.invokevirtual 213, 3) := by decide +kernel
theorem dX8_tidesTillAgain_11 : decode cX8_tidesTillAgain 11 = .ok (.aload_n 0, 1) := by decide +kernel
theorem dX8_tidesTillAgain_12 : decode cX8_tidesTillAgain 12 = .ok (.getfield 46, 3) := by decide +kernel
theorem dX8_tidesTillAgain_15 : decode cX8_tidesTillAgain 15 = .ok (.iconst 0, 1) := by decide +kernel
theorem dX8_tidesTillAgain_16 : decode cX8_tidesTillAgain 16 = .ok (.aload_n 0, 1) := by decide +kernel
theorem dX8_tidesTillAgain_17 : decode cX8_tidesTillAgain 17 = .ok (.getfield 33, 3) := by decide +kernel
theorem dX8_tidesTillAgain_20 : decode cX8_tidesTillAgain 20 = .ok (.invokevirtual 295, 3) := by decide +kernel
theorem dX8_tidesTillAgain_23 : decode cX8_tidesTillAgain 23 = .ok (.lastore, 1) := by decide +kernel
theorem dX8_tidesTillAgain_24 : decode cX8_tidesTillAgain 24 = .ok (.iconst 0, 1) := by decide +kernel
theorem dX8_tidesTillAgain_25 : decode cX8_tidesTillAgain 25 = .ok (.istore_n 1, 1) := by decide +kernel
theorem dX8_tidesTillAgain_26 : decode cX8_tidesTillAgain 26 = .ok (.aload_n 0, 1) := by decide +kernel
theorem dX8_tidesTillAgain_27 : decode cX8_tidesTillAgain 27 = .ok (.getfield 19, 3) := by decide +kernel
theorem dX8_tidesTillAgain_30 : decode cX8_tidesTillAgain 30 = .ok (.aload_n 0, 1) := by decide +kernel
theorem dX8_tidesTillAgain_31 : decode cX8_tidesTillAgain 31 = .ok (.getfield 33, 3) := by decide +kernel
theorem dX8_tidesTillAgain_34 : decode cX8_tidesTillAgain 34 = .ok (.invokevirtual 162, 3) := by decide +kernel
theorem dX8_tidesTillAgain_37 : decode cX8_tidesTillAgain 37 = .ok (.iinc 1 1, 3) := by decide +kernel
theorem dX8_tidesTillAgain_40 : decode cX8_tidesTillAgain 40 = .ok (.aload_n 0, 1) := by decide +kernel
theorem dX8_tidesTillAgain_41 : decode cX8_tidesTillAgain 41 = .ok (.getfield 46, 3) := by decide +kernel
theorem dX8_tidesTillAgain_44 : decode cX8_tidesTillAgain 44 = .ok (.iload_n 1, 1) := by decide +kernel
theorem dX8_tidesTillAgain_45 : decode cX8_tidesTillAgain 45 = .ok (.aload_n 0, 1) := by decide +kernel
theorem dX8_tidesTillAgain_46 : decode cX8_tidesTillAgain 46 = .ok (.getfield 33, 3) := by decide +kernel
theorem dX8_tidesTillAgain_49 : decode cX8_tidesTillAgain 49 = .ok (.invokevirtual 295, 3) := by decide +kernel
theorem dX8_tidesTillAgain_52 : decode cX8_tidesTillAgain 52 = .ok (.lastore, 1) := by decide +kernel
theorem dX8_tidesTillAgain_53 : decode cX8_tidesTillAgain 53 = .ok (.iload_n 1, 1) := by decide +kernel
theorem dX8_tidesTillAgain_54 : decode cX8_tidesTillAgain 54 = .ok (.bipush 63, 2) := by decide +kernel
theorem dX8_tidesTillAgain_56 : decode cX8_tidesTillAgain 56 = .ok (.if_icmp .ge 12, 3) := by decide +kernel
theorem dX8_tidesTillAgain_59 : decode cX8_tidesTillAgain 59 = .ok (.aload_n 0, 1) := by decide +kernel
theorem dX8_tidesTillAgain_60 : decode cX8_tidesTillAgain 60 = .ok (.iload_n 1, 1) := by decide +kernel
theorem dX8_tidesTillAgain_61 : decode cX8_tidesTillAgain 61 = .ok (.invokevirtual 203, 3) := by decide +kernel
theorem dX8_tidesTillAgain_64 : decode cX8_tidesTillAgain 64 = .ok (.iload_n 1, 1) := by decide +kernel
theorem dX8_tidesTillAgain_65 : decode cX8_tidesTillAgain 65 = .ok (.if_icmp .eq (-39), 3) := by decide +kernel
theorem dX8_tidesTillAgain_68 : decode cX8_tidesTillAgain 68 = .ok (.iload_n 1, 1) := by decide +kernel
theorem dX8_tidesTillAgain_69 : decode cX8_tidesTillAgain 69 = .ok (.ireturn, 1) := by decide +kernel
theorem dX8_firstLike_0 : decode cX8_firstLike 0 = .ok (.iconst 0, 1) := by decide +kernel
theorem dX8_firstLike_1 : decode cX8_firstLike 1 = .ok (.istore_n 2, 1) := by decide +kernel
theorem dX8_firstLike_2 : decode cX8_firstLike 2 = .ok (.iload_n 2, 1) := by decide +kernel
theorem dX8_firstLike_3 : decode cX8_firstLike 3 = .ok (.iload_n 1, 1) := by decide +kernel
theorem dX8_firstLike_4 : decode cX8_firstLike 4 = .ok (.if_icmp .ge 25, 3) := by decide +kernel
theorem dX8_firstLike_7 : decode cX8_firstLike 7 = .ok (.aload_n 0, 1) := by decide +kernel
theorem dX8_firstLike_8 : decode cX8_firstLike 8 = .ok (.getfield 46, 3) := by decide +kernel
theorem dX8_firstLike_11 : decode cX8_firstLike 11 = .ok (.iload_n 2, 1) := by decide +kernel
theorem dX8_firstLike_12 : decode cX8_firstLike 12 = .ok (.laload, 1) := by decide +kernel
theorem dX8_firstLike_13 : decode cX8_firstLike 13 = .ok (.aload_n 0, 1) := by decide +kernel
theorem dX8_firstLike_14 : decode cX8_firstLike 14 = .ok (.getfield 46, 3) := by decide +kernel
theorem dX8_firstLike_17 : decode cX8_firstLike 17 = .ok (.iload_n 1, 1) := by decide +kernel
theorem dX8_firstLike_18 : decode cX8_firstLike 18 = .ok (.laload, 1) := by decide +kernel
theorem dX8_firstLike_19 : decode cX8_firstLike 19 = .ok (.lcmp, 1) := by decide +kernel
theorem dX8_firstLike_20 : decode cX8_firstLike 20 = .ok (.ifCond .eq 9, 3) := by decide +kernel
theorem dX8_firstLike_23 : decode cX8_firstLike 23 = .ok (.iinc 2 1, 3) := by decide +kernel
theorem dX8_firstLike_26 : decode cX8_firstLike 26 = .ok (.goto (-24), 3) := by decide +kernel
theorem dX8_firstLike_29 : decode cX8_firstLike 29 = .ok (.iload_n 2, 1) := by decide +kernel
theorem dX8_firstLike_30 : decode cX8_firstLike 30 = .ok (.ireturn, 1) := by decide +kernel
theorem dX8_leansLeft_0 : decode cX8_leansLeft 0 = .ok (.aload_n 0, 1) := by decide +kernel
theorem dX8_leansLeft_1 : decode cX8_leansLeft 1 = .ok (.getfield 33, 3) := by decide +kernel
theorem dX8_leansLeft_4 : decode cX8_leansLeft 4 = .ok (.aload_n 0, 1) := by decide +kernel
theorem dX8_leansLeft_5 : decode cX8_leansLeft 5 = .ok (.getfield 26, 3) := by decide +kernel
theorem dX8_leansLeft_8 : decode cX8_leansLeft 8 = .ok (.invokevirtual 213, 3) := by decide +kernel
theorem dX8_leansLeft_11 : decode cX8_leansLeft 11 = .ok (.iconst 0, 1) := by decide +kernel
theorem dX8_leansLeft_12 : decode cX8_leansLeft 12 = .ok (.istore_n 3, 1) := by decide +kernel
theorem dX8_leansLeft_13 : decode cX8_leansLeft 13 = .ok (.iconst 0, 1) := by decide +kernel
theorem dX8_leansLeft_14 : decode cX8_leansLeft 14 = .ok (.istore 4, 2) := by decide +kernel
theorem dX8_leansLeft_16 : decode cX8_leansLeft 16 = .ok (.iload 4, 2) := by decide +kernel
theorem dX8_leansLeft_18 : decode cX8_leansLeft 18 = .ok (.iconst 3, 1) := by decide +kernel
theorem dX8_leansLeft_19 : decode cX8_leansLeft 19 = .ok (.if_icmp .ge 69, 3) := by decide +kernel
theorem dX8_leansLeft_22 : decode cX8_leansLeft 22 = .ok (.aload_n 0, 1) := by decide +kernel
theorem dX8_leansLeft_23 : decode cX8_leansLeft 23 = .ok (.getfield 33, 3) := by decide +kernel
theorem dX8_leansLeft_26 : decode cX8_leansLeft 26 = .ok (.getfield 85, 3) := by decide +kernel
theorem dX8_leansLeft_29 : decode cX8_leansLeft 29 = .ok (.iload_n 2, 1) := by decide +kernel
theorem dX8_leansLeft_30 : decode cX8_leansLeft 30 = .ok (.aaload, 1) := by decide +kernel
theorem dX8_leansLeft_31 : decode cX8_leansLeft 31 = .ok (.iload_n 1, 1) := by decide +kernel
theorem dX8_leansLeft_32 : decode cX8_leansLeft 32 = .ok (.iconst 1, 1) := by decide +kernel
theorem dX8_leansLeft_33 : decode cX8_leansLeft 33 = .ok (.iload 4, 2) := by decide +kernel
theorem dX8_leansLeft_35 : decode cX8_leansLeft 35 = .ok (.isub, 1) := by decide +kernel
theorem dX8_leansLeft_36 : decode cX8_leansLeft 36 = .ok (.iastore, 1) := by decide +kernel
theorem dX8_leansLeft_37 : decode cX8_leansLeft 37 = .ok (.aload_n 0, 1) := by decide +kernel
theorem dX8_leansLeft_38 : decode cX8_leansLeft 38 = .ok (.getfield 43, 3) := by decide +kernel
theorem dX8_leansLeft_41 : decode cX8_leansLeft 41 = .ok (.iload 4, 2) := by decide +kernel
theorem dX8_leansLeft_43 : decode cX8_leansLeft 43 = .ok (.aload_n 0, 1) := by decide +kernel
theorem dX8_leansLeft_44 : decode cX8_leansLeft 44 = .ok (.getfield 19, 3) := by decide +kernel
theorem dX8_leansLeft_47 : decode cX8_leansLeft 47 = .ok (.aload_n 0, 1) := by decide +kernel
theorem dX8_leansLeft_48 : decode cX8_leansLeft 48 = .ok (.getfield 33, 3) := by decide +kernel
theorem dX8_leansLeft_51 : decode cX8_leansLeft 51 = .ok (.iload_n 2, 1) := by decide +kernel
theorem dX8_leansLeft_52 : decode cX8_leansLeft 52 = .ok (.invokevirtual 143, 3) := by decide +kernel
theorem dX8_leansLeft_55 : decode cX8_leansLeft 55 = .ok (.iastore, 1) := by decide +kernel
theorem dX8_leansLeft_56 : decode cX8_leansLeft 56 = .ok (.aload_n 0, 1) := by decide +kernel
theorem dX8_leansLeft_57 : decode cX8_leansLeft 57 = .ok (.getfield 26, 3) := by decide +kernel
theorem dX8_leansLeft_60 : decode cX8_leansLeft 60 = .ok (.iload_n 1, 1) := by decide +kernel
theorem dX8_leansLeft_61 : decode cX8_leansLeft 61 = .ok (.iload_n 2, 1) := by decide +kernel
theorem dX8_leansLeft_62 : decode cX8_leansLeft 62 = .ok (.aload_n 0, 1) := by decide +kernel
theorem dX8_leansLeft_63 : decode cX8_leansLeft 63 = .ok (.getfield 43, 3) := by decide +kernel
theorem dX8_leansLeft_66 : decode cX8_leansLeft 66 = .ok (.iload 4, 2) := by decide +kernel
theorem dX8_leansLeft_68 : decode cX8_leansLeft 68 = .ok (.iaload, 1) := by decide +kernel
theorem dX8_leansLeft_69 : decode cX8_leansLeft 69 = .ok (.invokevirtual 299, 3) := by decide +kernel
theorem dX8_leansLeft_72 : decode cX8_leansLeft 72 = .ok (.ifCond .eq 10, 3) := by decide +kernel
theorem dX8_leansLeft_75 : decode cX8_leansLeft 75 = .ok (.iload_n 3, 1) := by decide +kernel
theorem dX8_leansLeft_76 : decode cX8_leansLeft 76 = .ok (.iconst 1, 1) := by decide +kernel
theorem dX8_leansLeft_77 : decode cX8_leansLeft 77 = .ok (.iload 4, 2) := by decide +kernel
theorem dX8_leansLeft_79 : decode cX8_leansLeft 79 = .ok (.ishl, 1) := by decide +kernel
theorem dX8_leansLeft_80 : decode cX8_leansLeft 80 = .ok (.ior, 1) := by decide +kernel
theorem dX8_leansLeft_81 : decode cX8_leansLeft 81 = .ok (.istore_n 3, 1) := by decide +kernel
theorem dX8_leansLeft_82 : decode cX8_leansLeft 82 = .ok (.iinc 4 1, 3) := by decide +kernel
theorem dX8_leansLeft_85 : decode cX8_leansLeft 85 = .ok (.goto (-69), 3) := by decide +kernel
theorem dX8_leansLeft_88 : decode cX8_leansLeft 88 = .ok (.iload_n 3, 1) := by decide +kernel
theorem dX8_leansLeft_89 : decode cX8_leansLeft 89 = .ok (.ireturn, 1) := by decide +kernel
theorem dX8_bestQuestion_0 : decode cX8_bestQuestion 0 = .ok (.iconst (-1), 1) := by decide +kernel
theorem dX8_bestQuestion_1 : decode cX8_bestQuestion 1 = .ok (.istore_n 2, 1) := by decide +kernel
theorem dX8_bestQuestion_2 : decode cX8_bestQuestion 2 = .ok (.iconst 4, 1) := by decide +kernel
theorem dX8_bestQuestion_3 : decode cX8_bestQuestion 3 = .ok (.istore_n 3, 1) := by decide +kernel
theorem dX8_bestQuestion_4 : decode cX8_bestQuestion 4 = .ok (.iconst 0, 1) := by decide +kernel
theorem dX8_bestQuestion_5 : decode cX8_bestQuestion 5 = .ok (.istore 4, 2) := by decide +kernel
theorem dX8_bestQuestion_7 : decode cX8_bestQuestion 7 = .ok (.iload 4, 2) := by decide +kernel
theorem dX8_bestQuestion_9 : decode cX8_bestQuestion 9 = .ok (.iconst 3, 1) := by decide +kernel
theorem dX8_bestQuestion_10 : decode cX8_bestQuestion 10 = .ok (.if_icmp .ge 48, 3) := by decide +kernel
theorem dX8_bestQuestion_13 : decode cX8_bestQuestion 13 = .ok (.aload_n 0, 1) := by decide +kernel
theorem dX8_bestQuestion_14 : decode cX8_bestQuestion 14 = .ok (.iload_n 1, 1) := by decide +kernel
theorem dX8_bestQuestion_15 : decode cX8_bestQuestion 15 = .ok (.iload 4, 2) := by decide +kernel
theorem dX8_bestQuestion_17 : decode cX8_bestQuestion 17 = .ok (.invokevirtual 108, 3) := by decide +kernel
theorem dX8_bestQuestion_20 : decode cX8_bestQuestion 20 = .ok (.istore 5, 2) := by decide +kernel
theorem dX8_bestQuestion_22 : decode cX8_bestQuestion 22 = .ok (.aload_n 0, 1) := by decide +kernel
theorem dX8_bestQuestion_23 : decode cX8_bestQuestion 23 = .ok (.iload 5, 2) := by decide +kernel
theorem dX8_bestQuestion_25 : decode cX8_bestQuestion 25 = .ok (.invokevirtual 302, 3) := by decide +kernel
theorem dX8_bestQuestion_28 : decode cX8_bestQuestion 28 = .ok (.istore 6, 2) := by decide +kernel
theorem dX8_bestQuestion_30 : decode cX8_bestQuestion 30 = .ok (.iload 6, 2) := by decide +kernel
theorem dX8_bestQuestion_32 : decode cX8_bestQuestion 32 = .ok (.iload 5, 2) := by decide +kernel
theorem dX8_bestQuestion_34 : decode cX8_bestQuestion 34 = .ok (.invokestatic 280, 3) := by decide +kernel
theorem dX8_bestQuestion_37 : decode cX8_bestQuestion 37 = .ok (.if_icmp .ge 15, 3) := by decide +kernel
theorem dX8_bestQuestion_40 : decode cX8_bestQuestion 40 = .ok (.iload 6, 2) := by decide +kernel
theorem dX8_bestQuestion_42 : decode cX8_bestQuestion 42 = .ok (.iload_n 3, 1) := by decide +kernel
theorem dX8_bestQuestion_43 : decode cX8_bestQuestion 43 = .ok (.if_icmp .ge 9, 3) := by decide +kernel
theorem dX8_bestQuestion_46 : decode cX8_bestQuestion 46 = .ok (.iload 4, 2) := by decide +kernel
theorem dX8_bestQuestion_48 : decode cX8_bestQuestion 48 = .ok (.istore_n 2, 1) := by decide +kernel
theorem dX8_bestQuestion_49 : decode cX8_bestQuestion 49 = .ok (.iload 6, 2) := by decide +kernel
theorem dX8_bestQuestion_51 : decode cX8_bestQuestion 51 = .ok (.istore_n 3, 1) := by decide +kernel
theorem dX8_bestQuestion_52 : decode cX8_bestQuestion 52 = .ok (.iinc 4 1, 3) := by decide +kernel
theorem dX8_bestQuestion_55 : decode cX8_bestQuestion 55 = .ok (.goto (-48), 3) := by decide +kernel
theorem dX8_bestQuestion_58 : decode cX8_bestQuestion 58 = .ok (.iload_n 2, 1) := by decide +kernel
theorem dX8_bestQuestion_59 : decode cX8_bestQuestion 59 = .ok (.ireturn, 1) := by decide +kernel
theorem dX8_mostAlike_0 : decode cX8_mostAlike 0 = .ok (.iconst 0, 1) := by decide +kernel
theorem dX8_mostAlike_1 : decode cX8_mostAlike 1 = .ok (.istore_n 2, 1) := by decide +kernel
theorem dX8_mostAlike_2 : decode cX8_mostAlike 2 = .ok (.iconst 0, 1) := by decide +kernel
theorem dX8_mostAlike_3 : decode cX8_mostAlike 3 = .ok (.istore_n 3, 1) := by decide +kernel
theorem dX8_mostAlike_4 : decode cX8_mostAlike 4 = .ok (.iload_n 3, 1) := by decide +kernel
theorem dX8_mostAlike_5 : decode cX8_mostAlike 5 = .ok (.iconst 3, 1) := by decide +kernel
theorem dX8_mostAlike_6 : decode cX8_mostAlike 6 = .ok (.if_icmp .ge 79, 3) := by decide +kernel
theorem dX8_mostAlike_9 : decode cX8_mostAlike 9 = .ok (.iconst 0, 1) := by decide +kernel
theorem dX8_mostAlike_10 : decode cX8_mostAlike 10 = .ok (.istore 4, 2) := by decide +kernel
theorem dX8_mostAlike_12 : decode cX8_mostAlike 12 = .ok (.iconst 0, 1) := by decide +kernel
theorem dX8_mostAlike_13 : decode cX8_mostAlike 13 = .ok (.istore 5, 2) := by decide +kernel
theorem dX8_mostAlike_15 : decode cX8_mostAlike 15 = .ok (.iload 5, 2) := by decide +kernel
theorem dX8_mostAlike_17 : decode cX8_mostAlike 17 = .ok (.iconst 3, 1) := by decide +kernel
theorem dX8_mostAlike_18 : decode cX8_mostAlike 18 = .ok (.if_icmp .ge 54, 3) := by decide +kernel
theorem dX8_mostAlike_21 : decode cX8_mostAlike 21 = .ok (.iload_n 1, 1) := by decide +kernel
theorem dX8_mostAlike_22 : decode cX8_mostAlike 22 = .ok (.iload_n 3, 1) := by decide +kernel
theorem dX8_mostAlike_23 : decode cX8_mostAlike 23 = .ok (.ishr, 1) := by decide +kernel
theorem dX8_mostAlike_24 : decode cX8_mostAlike 24 = .ok (.iload_n 1, 1) := by decide +kernel
theorem dX8_mostAlike_25 : decode cX8_mostAlike 25 = .ok (.iload 5, 2) := by decide +kernel
theorem dX8_mostAlike_27 : decode cX8_mostAlike 27 = .ok (.ishr, 1) := by decide +kernel
theorem dX8_mostAlike_28 : decode cX8_mostAlike 28 = .ok (.iand, 1) := by decide +kernel
theorem dX8_mostAlike_29 : decode cX8_mostAlike 29 = .ok (.iconst 1, 1) := by decide +kernel
theorem dX8_mostAlike_30 : decode cX8_mostAlike 30 = .ok (.iand, 1) := by decide +kernel
theorem dX8_mostAlike_31 : decode cX8_mostAlike 31 = .ok (.iconst 1, 1) := by decide +kernel
theorem dX8_mostAlike_32 : decode cX8_mostAlike 32 = .ok (.if_icmp .ne 7, 3) := by decide +kernel
theorem dX8_mostAlike_35 : decode cX8_mostAlike 35 = .ok (.iconst 1, 1) := by decide +kernel
theorem dX8_mostAlike_36 : decode cX8_mostAlike 36 = .ok (.goto 4, 3) := by decide +kernel
theorem dX8_mostAlike_39 : decode cX8_mostAlike 39 = .ok (.iconst 0, 1) := by decide +kernel
theorem dX8_mostAlike_40 : decode cX8_mostAlike 40 = .ok (.istore 6, 2) := by decide +kernel
theorem dX8_mostAlike_42 : decode cX8_mostAlike 42 = .ok (.iload 6, 2) := by decide +kernel
theorem dX8_mostAlike_44 : decode cX8_mostAlike 44 = .ok (.ifCond .eq 22, 3) := by decide +kernel
theorem dX8_mostAlike_47 : decode cX8_mostAlike 47 = .ok (.aload_n 0, 1) := by decide +kernel
theorem dX8_mostAlike_48 : decode cX8_mostAlike 48 = .ok (.getfield 43, 3) := by decide +kernel
theorem dX8_mostAlike_51 : decode cX8_mostAlike 51 = .ok (.iload_n 3, 1) := by decide +kernel
theorem dX8_mostAlike_52 : decode cX8_mostAlike 52 = .ok (.iaload, 1) := by decide +kernel
theorem dX8_mostAlike_53 : decode cX8_mostAlike 53 = .ok (.aload_n 0, 1) := by decide +kernel
theorem dX8_mostAlike_54 : decode cX8_mostAlike 54 = .ok (.getfield 43, 3) := by decide +kernel
theorem dX8_mostAlike_57 : decode cX8_mostAlike 57 = .ok (.iload 5, 2) := by decide +kernel
theorem dX8_mostAlike_59 : decode cX8_mostAlike 59 = .ok (.iaload, 1) := by decide +kernel
theorem dX8_mostAlike_60 : decode cX8_mostAlike 60 = .ok (.if_icmp .ne 6, 3) := by decide +kernel
theorem dX8_mostAlike_63 : decode cX8_mostAlike 63 = .ok (.iinc 4 1, 3) := by decide +kernel
theorem dX8_mostAlike_66 : decode cX8_mostAlike 66 = .ok (.iinc 5 1, 3) := by decide +kernel
theorem dX8_mostAlike_69 : decode cX8_mostAlike 69 = .ok (.goto (-54), 3) := by decide +kernel
theorem dX8_mostAlike_72 : decode cX8_mostAlike 72 = .ok (.iload_n 2, 1) := by decide +kernel
theorem dX8_mostAlike_73 : decode cX8_mostAlike 73 = .ok (.iload 4, 2) := by decide +kernel
theorem dX8_mostAlike_75 : decode cX8_mostAlike 75 = .ok (.invokestatic 305, 3) := by decide +kernel
theorem dX8_mostAlike_78 : decode cX8_mostAlike 78 = .ok (.istore_n 2, 1) := by decide +kernel
theorem dX8_mostAlike_79 : decode cX8_mostAlike 79 = .ok (.iinc 3 1, 3) := by decide +kernel
theorem dX8_mostAlike_82 : decode cX8_mostAlike 82 = .ok (.goto (-78), 3) := by decide +kernel
theorem dX8_mostAlike_85 : decode cX8_mostAlike 85 = .ok (.iload_n 2, 1) := by decide +kernel
theorem dX8_mostAlike_86 : decode cX8_mostAlike 86 = .ok (.ireturn, 1) := by decide +kernel
theorem dX8_nextSeed_0 : decode cX8_nextSeed 0 = .ok (.ldc2_w 310, 3) := by decide +kernel
theorem dX8_nextSeed_3 : decode cX8_nextSeed 3 = .ok (.iload_n 0, 1) := by decide +kernel
theorem dX8_nextSeed_4 : decode cX8_nextSeed 4 = .ok (.i2l, 1) := by decide +kernel
theorem dX8_nextSeed_5 : decode cX8_nextSeed 5 = .ok (.lmul, 1) := by decide +kernel
theorem dX8_nextSeed_6 : decode cX8_nextSeed 6 = .ok (.ldc2_w 312, 3) := by decide +kernel
theorem dX8_nextSeed_9 : decode cX8_nextSeed 9 = .ok (.ladd, 1) := by decide +kernel
theorem dX8_nextSeed_10 : decode cX8_nextSeed 10 = .ok (.ldc2_w 314, 3) := by decide +kernel
theorem dX8_nextSeed_13 : decode cX8_nextSeed 13 = .ok (.land, 1) := by decide +kernel
theorem dX8_nextSeed_14 : decode cX8_nextSeed 14 = .ok (.l2i, 1) := by decide +kernel
theorem dX8_nextSeed_15 : decode cX8_nextSeed 15 = .ok (.ireturn, 1) := by decide +kernel
theorem dX8_drawOf_0 : decode cX8_drawOf 0 = .ok (.iload_n 1, 1) := by decide +kernel
theorem dX8_drawOf_1 : decode cX8_drawOf 1 = .ok (.ifCond .le 13, 3) := by decide +kernel
theorem dX8_drawOf_4 : decode cX8_drawOf 4 = .ok (.iload_n 0, 1) := by decide +kernel
theorem dX8_drawOf_5 : decode cX8_drawOf 5 = .ok (.ldc_w 316, 3) := by decide +kernel
theorem dX8_drawOf_8 : decode cX8_drawOf 8 = .ok (.idiv, 1) := by decide +kernel
theorem dX8_drawOf_9 : decode cX8_drawOf 9 = .ok (.iload_n 1, 1) := by decide +kernel
theorem dX8_drawOf_10 : decode cX8_drawOf 10 = .ok (.irem, 1) := by decide +kernel
theorem dX8_drawOf_11 : decode cX8_drawOf 11 = .ok (.goto 4, 3) := by decide +kernel
theorem dX8_drawOf_14 : decode cX8_drawOf 14 = .ok (.iconst 0, 1) := by decide +kernel
theorem dX8_drawOf_15 : decode cX8_drawOf 15 = .ok (.ireturn, 1) := by decide +kernel
theorem dX9_init_0 : decode cX9_init 0 = .ok (.aload_n 0, 1) := by decide +kernel
theorem dX9_init_1 : decode cX9_init 1 = .ok (.invokespecial 1, 3) := by decide +kernel
theorem dX9_init_4 : decode cX9_init 4 = .ok (.aload_n 0, 1) := by decide +kernel
theorem dX9_init_5 : decode cX9_init 5 = .ok (.bipush 8, 2) := by decide +kernel
theorem dX9_init_7 : decode cX9_init 7 = .ok (.newarray .int, 2) := by decide +kernel
theorem dX9_init_9 : decode cX9_init 9 = .ok (.putfield 7, 3) := by decide +kernel
theorem dX9_init_12 : decode cX9_init 12 = .ok (.aload_n 0, 1) := by decide +kernel
theorem dX9_init_13 : decode cX9_init 13 = .ok (.bipush 8, 2) := by decide +kernel
theorem dX9_init_15 : decode cX9_init 15 = .ok (.newarray .int, 2) := by decide +kernel
theorem dX9_init_17 : decode cX9_init 17 = .ok (.putfield 13, 3) := by decide +kernel
theorem dX9_init_20 : decode cX9_init 20 = .ok (.aload_n 0, 1) := by decide +kernel
theorem dX9_init_21 : decode cX9_init 21 = .ok (.bipush 24, 2) := by decide +kernel
theorem dX9_init_23 : decode cX9_init 23 = .ok (.newarray .int, 2) := by decide +kernel
theorem dX9_init_25 : decode cX9_init 25 = .ok (.putfield 16, 3) := by decide +kernel
theorem dX9_init_28 : decode cX9_init 28 = .ok (.aload_n 0, 1) := by decide +kernel
theorem dX9_init_29 : decode cX9_init 29 = .ok (.iconst 3, 1) := by decide +kernel
theorem dX9_init_30 : decode cX9_init 30 = .ok (.newarray .int, 2) := by decide +kernel
theorem dX9_init_32 : decode cX9_init 32 = .ok (.putfield 19, 3) := by decide +kernel
theorem dX9_init_35 : decode cX9_init 35 = .ok (.aload_n 0, 1) := by decide +kernel
theorem dX9_init_36 : decode cX9_init 36 = .ok (.iconst 3, 1) := by decide +kernel
theorem dX9_init_37 : decode cX9_init 37 = .ok (.newarray .int, 2) := by decide +kernel
theorem dX9_init_39 : decode cX9_init 39 = .ok (.putfield 22, 3) := by decide +kernel
theorem dX9_init_42 : decode cX9_init 42 = .ok (.aload_n 0, 1) := by decide +kernel
theorem dX9_init_43 : decode cX9_init 43 = .ok (.bipush 6, 2) := by decide +kernel
theorem dX9_init_45 : decode cX9_init 45 = .ok (.newarray .int, 2) := by decide +kernel
theorem dX9_init_47 : decode cX9_init 47 = .ok (.putfield 25, 3) := by decide +kernel
theorem dX9_init_50 : decode cX9_init 50 = .ok (.aload_n 0, 1) := by decide +kernel
theorem dX9_init_51 : decode cX9_init 51 = .ok (.bipush 6, 2) := by decide +kernel
theorem dX9_init_53 : decode cX9_init 53 = .ok (.newarray .int, 2) := by decide +kernel
theorem dX9_init_55 : decode cX9_init 55 = .ok (.putfield 28, 3) := by decide +kernel
theorem dX9_init_58 : decode cX9_init 58 = .ok (.aload_n 0, 1) := by decide +kernel
theorem dX9_init_59 : decode cX9_init 59 = .ok (.bipush 6, 2) := by decide +kernel
theorem dX9_init_61 : decode cX9_init 61 = .ok (.newarray .int, 2) := by decide +kernel
theorem dX9_init_63 : decode cX9_init 63 = .ok (.putfield 31, 3) := by decide +kernel
theorem dX9_init_66 : decode cX9_init 66 = .ok (.aload_n 0, 1) := by decide +kernel
theorem dX9_init_67 : decode cX9_init 67 = .ok (.bipush 50, 2) := by decide +kernel
theorem dX9_init_69 : decode cX9_init 69 = .ok (.newarray .byte, 2) := by decide +kernel
theorem dX9_init_71 : decode cX9_init 71 = .ok (.putfield 34, 3) := by decide +kernel
theorem dX9_init_74 : decode cX9_init 74 = .ok (.aload_n 0, 1) := by decide +kernel
theorem dX9_init_75 : decode cX9_init 75 = .ok (.bipush 24, 2) := by decide +kernel
theorem dX9_init_77 : decode cX9_init 77 = .ok (.newarray .int, 2) := by decide +kernel
theorem dX9_init_79 : decode cX9_init 79 = .ok (.putfield 38, 3) := by decide +kernel
theorem dX9_init_82 : decode cX9_init 82 = .ok (.aload_n 0, 1) := by decide +kernel
theorem dX9_init_83 : decode cX9_init 83 = .ok (.bipush 24, 2) := by decide +kernel
theorem dX9_init_85 : decode cX9_init 85 = .ok (.newarray .int, 2) := by decide +kernel
theorem dX9_init_87 : decode cX9_init 87 = .ok (.putfield 41, 3) := by decide +kernel
theorem dX9_init_90 : decode cX9_init 90 = .ok (.aload_n 0, 1) := by decide +kernel
theorem dX9_init_91 : decode cX9_init 91 = .ok (.bipush 100, 2) := by decide +kernel
theorem dX9_init_93 : decode cX9_init 93 = .ok (.newarray .long, 2) := by decide +kernel
theorem dX9_init_95 : decode cX9_init 95 = .ok (.putfield 44, 3) := by decide +kernel
theorem dX9_init_98 : decode cX9_init 98 = .ok (.aload_n 0, 1) := by decide +kernel
theorem dX9_init_99 : decode cX9_init 99 = .ok (.iconst 3, 1) := by decide +kernel
theorem dX9_init_100 : decode cX9_init 100 = .ok (.newarray .int, 2) := by decide +kernel
theorem dX9_init_102 : decode cX9_init 102 = .ok (.putfield 48, 3) := by decide +kernel
theorem dX9_init_105 : decode cX9_init 105 = .ok (.aload_n 0, 1) := by decide +kernel
theorem dX9_init_106 : decode cX9_init 106 = .ok (.bipush 24, 2) := by decide +kernel
theorem dX9_init_108 : decode cX9_init 108 = .ok (.newarray .int, 2) := by decide +kernel
theorem dX9_init_110 : decode cX9_init 110 = .ok (.putfield 51, 3) := by decide +kernel
theorem dX9_init_113 : decode cX9_init 113 = .ok (.aload_n 0, 1) := by decide +kernel
theorem dX9_init_114 : decode cX9_init 114 = .ok (.bipush 8, 2) := by decide +kernel
theorem dX9_init_116 : decode cX9_init 116 = .ok (.newarray .int, 2) := by decide +kernel
theorem dX9_init_118 : decode cX9_init 118 = .ok (.putfield 54, 3) := by decide +kernel
theorem dX9_init_121 : decode cX9_init 121 = .ok (.aload_n 0, 1) := by decide +kernel
theorem dX9_init_122 : decode cX9_init 122 = .ok (.bipush 24, 2) := by decide +kernel
theorem dX9_init_124 : decode cX9_init 124 = .ok (.newarray .int, 2) := by decide +kernel
theorem dX9_init_126 : decode cX9_init 126 = .ok (.putfield 57, 3) := by decide +kernel
theorem dX9_init_129 : decode cX9_init 129 = .ok (.aload_n 0, 1) := by decide +kernel
theorem dX9_init_130 : decode cX9_init 130 = .ok (.iconst 3, 1) := by decide +kernel
theorem dX9_init_131 : decode cX9_init 131 = .ok (.newarray .int, 2) := by decide +kernel
theorem dX9_init_133 : decode cX9_init 133 = .ok (.putfield 60, 3) := by decide +kernel
theorem dX9_init_136 : decode cX9_init 136 = .ok (.aload_n 0, 1) := by decide +kernel
theorem dX9_init_137 : decode cX9_init 137 = .ok (.iconst 3, 1) := by decide +kernel
theorem dX9_init_138 : decode cX9_init 138 = .ok (.newarray .int, 2) := by decide +kernel
theorem dX9_init_140 : decode cX9_init 140 = .ok (.putfield 63, 3) := by decide +kernel
theorem dX9_init_143 : decode cX9_init 143 = .ok (.aload_n 0, 1) := by decide +kernel
theorem dX9_init_144 : decode cX9_init 144 = .ok (.bipush 6, 2) := by decide +kernel
theorem dX9_init_146 : decode cX9_init 146 = .ok (.newarray .int, 2) := by decide +kernel
theorem dX9_init_148 : decode cX9_init 148 = .ok (.putfield 66, 3) := by decide +kernel
theorem dX9_init_151 : decode cX9_init 151 = .ok (.aload_n 0, 1) := by decide +kernel
theorem dX9_init_152 : decode cX9_init 152 = .ok (.bipush 6, 2) := by decide +kernel
theorem dX9_init_154 : decode cX9_init 154 = .ok (.newarray .int, 2) := by decide +kernel
theorem dX9_init_156 : decode cX9_init 156 = .ok (.putfield 69, 3) := by decide +kernel
theorem dX9_init_159 : decode cX9_init 159 = .ok (.aload_n 0, 1) := by decide +kernel
theorem dX9_init_160 : decode cX9_init 160 = .ok (.bipush 6, 2) := by decide +kernel
theorem dX9_init_162 : decode cX9_init 162 = .ok (.newarray .int, 2) := by decide +kernel
theorem dX9_init_164 : decode cX9_init 164 = .ok (.putfield 72, 3) := by decide +kernel
theorem dX9_init_167 : decode cX9_init 167 = .ok (.return_, 1) := by decide +kernel
theorem dX9_within_0 : decode cX9_within 0 = .ok (.iload_n 0, 1) := by decide +kernel
theorem dX9_within_1 : decode cX9_within 1 = .ok (.iload_n 1, 1) := by decide +kernel
theorem dX9_within_2 : decode cX9_within 2 = .ok (.if_icmp .lt 12, 3) := by decide +kernel
theorem dX9_within_5 : decode cX9_within 5 = .ok (.iload_n 0, 1) := by decide +kernel
theorem dX9_within_6 : decode cX9_within 6 = .ok (.iload_n 2, 1) := by decide +kernel
theorem dX9_within_7 : decode cX9_within 7 = .ok (.if_icmp .gt 7, 3) := by decide +kernel
theorem dX9_within_10 : decode cX9_within 10 = .ok (.iconst 1, 1) := by decide +kernel
theorem dX9_within_11 : decode cX9_within 11 = .ok (.goto 4, 3) := by decide +kernel
theorem dX9_within_14 : decode cX9_within 14 = .ok (.iconst 0, 1) := by decide +kernel
theorem dX9_within_15 : decode cX9_within 15 = .ok (.ireturn, 1) := by decide +kernel
theorem dX9_isIn_0 : decode cX9_isIn 0 = .ok (.iload_n 0, 1) := by decide +kernel
theorem dX9_isIn_1 : decode cX9_isIn 1 = .ok (.iload_n 1, 1) := by decide +kernel
theorem dX9_isIn_2 : decode cX9_isIn 2 = .ok (.ishr, 1) := by decide +kernel
theorem dX9_isIn_3 : decode cX9_isIn 3 = .ok (.iconst 1, 1) := by decide +kernel
theorem dX9_isIn_4 : decode cX9_isIn 4 = .ok (.iand, 1) := by decide +kernel
theorem dX9_isIn_5 : decode cX9_isIn 5 = .ok (.iconst 1, 1) := by decide +kernel
theorem dX9_isIn_6 : decode cX9_isIn 6 = .ok (.if_icmp .ne 7, 3) := by decide +kernel
theorem dX9_isIn_9 : decode cX9_isIn 9 = .ok (.iconst 1, 1) := by decide +kernel
theorem dX9_isIn_10 : decode cX9_isIn 10 = .ok (.goto 4, 3) := by decide +kernel
theorem dX9_isIn_13 : decode cX9_isIn 13 = .ok (.iconst 0, 1) := by decide +kernel
theorem dX9_isIn_14 : decode cX9_isIn 14 = .ok (.ireturn, 1) := by decide +kernel
theorem dX9_size_0 : decode cX9_size 0 = .ok (.iconst 0, 1) := by decide +kernel
theorem dX9_size_1 : decode cX9_size 1 = .ok (.istore_n 1, 1) := by decide +kernel
theorem dX9_size_2 : decode cX9_size 2 = .ok (.iconst 0, 1) := by decide +kernel
theorem dX9_size_3 : decode cX9_size 3 = .ok (.istore_n 2, 1) := by decide +kernel
theorem dX9_size_4 : decode cX9_size 4 = .ok (.iload_n 2, 1) := by decide +kernel
theorem dX9_size_5 : decode cX9_size 5 = .ok (.bipush 8, 2) := by decide +kernel
theorem dX9_size_7 : decode cX9_size 7 = .ok (.if_icmp .ge 17, 3) := by decide +kernel
theorem dX9_size_10 : decode cX9_size 10 = .ok (.iload_n 1, 1) := by decide +kernel
theorem dX9_size_11 : decode cX9_size 11 = .ok (.iload_n 0, 1) := by decide +kernel
theorem dX9_size_12 : decode cX9_size 12 = .ok (.iload_n 2, 1) := by decide +kernel
theorem dX9_size_13 : decode cX9_size 13 = .ok (.ishr, 1) := by decide +kernel
theorem dX9_size_14 : decode cX9_size 14 = .ok (.iconst 1, 1) := by decide +kernel
theorem dX9_size_15 : decode cX9_size 15 = .ok (.iand, 1) := by decide +kernel
theorem dX9_size_16 : decode cX9_size 16 = .ok (.iadd, 1) := by decide +kernel
theorem dX9_size_17 : decode cX9_size 17 = .ok (.istore_n 1, 1) := by decide +kernel
theorem dX9_size_18 : decode cX9_size 18 = .ok (.iinc 2 1, 3) := by decide +kernel
theorem dX9_size_21 : decode cX9_size 21 = .ok (.goto (-17), 3) := by decide +kernel
theorem dX9_size_24 : decode cX9_size 24 = .ok (.iload_n 1, 1) := by decide +kernel
theorem dX9_size_25 : decode cX9_size 25 = .ok (.ireturn, 1) := by decide +kernel
theorem dX9_divisor_0 : decode cX9_divisor 0 = .ok (.iload_n 0, 1) := by decide +kernel
theorem dX9_divisor_1 : decode cX9_divisor 1 = .ok (.istore_n 2, 1) := by decide +kernel
theorem dX9_divisor_2 : decode cX9_divisor 2 = .ok (.iload_n 1, 1) := by decide +kernel
theorem dX9_divisor_3 : decode cX9_divisor 3 = .ok (.istore_n 3, 1) := by decide +kernel
theorem dX9_divisor_4 : decode cX9_divisor 4 = .ok (.iload_n 3, 1) := by decide +kernel
theorem dX9_divisor_5 : decode cX9_divisor 5 = .ok (.ifCond .eq 16, 3) := by decide +kernel
theorem dX9_divisor_8 : decode cX9_divisor 8 = .ok (.iload_n 2, 1) := by decide +kernel
theorem dX9_divisor_9 : decode cX9_divisor 9 = .ok (.iload_n 3, 1) := by decide +kernel
theorem dX9_divisor_10 : decode cX9_divisor 10 = .ok (.irem, 1) := by decide +kernel
theorem dX9_divisor_11 : decode cX9_divisor 11 = .ok (.istore 4, 2) := by decide +kernel
theorem dX9_divisor_13 : decode cX9_divisor 13 = .ok (.iload_n 3, 1) := by decide +kernel
theorem dX9_divisor_14 : decode cX9_divisor 14 = .ok (.istore_n 2, 1) := by decide +kernel
theorem dX9_divisor_15 : decode cX9_divisor 15 = .ok (.iload 4, 2) := by decide +kernel
theorem dX9_divisor_17 : decode cX9_divisor 17 = .ok (.istore_n 3, 1) := by decide +kernel
theorem dX9_divisor_18 : decode cX9_divisor 18 = .ok (.goto (-14), 3) := by decide +kernel
theorem dX9_divisor_21 : decode cX9_divisor 21 = .ok (.iload_n 2, 1) := by decide +kernel
theorem dX9_divisor_22 : decode cX9_divisor 22 = .ok (.ireturn, 1) := by decide +kernel
theorem dX9_part_0 : decode cX9_part 0 = .ok (.iload_n 0, 1) := by decide +kernel
theorem dX9_part_1 : decode cX9_part 1 = .ok (.iload_n 1, 1) := by decide +kernel
theorem dX9_part_2 : decode cX9_part 2 = .ok (.invokestatic 75, 3) := by decide +kernel
theorem dX9_part_5 : decode cX9_part 5 = .ok (.istore_n 3, 1) := by decide +kernel
theorem dX9_part_6 : decode cX9_part 6 = .ok (.iload_n 2, 1) := by decide +kernel
theorem dX9_part_7 : decode cX9_part 7 = .ok (.ifCond .ne 9, 3) := by decide +kernel
theorem dX9_part_10 : decode cX9_part 10 = .ok (.iload_n 0, 1) := by decide +kernel
theorem dX9_part_11 : decode cX9_part 11 = .ok (.iload_n 3, 1) := by decide +kernel
theorem dX9_part_12 : decode cX9_part 12 = .ok (.idiv, 1) := by decide +kernel
theorem dX9_part_13 : decode cX9_part 13 = .ok (.goto 6, 3) := by decide +kernel
theorem dX9_part_16 : decode cX9_part 16 = .ok (.iload_n 1, 1) := by decide +kernel
theorem dX9_part_17 : decode cX9_part 17 = .ok (.iload_n 3, 1) := by decide +kernel
theorem dX9_part_18 : decode cX9_part 18 = .ok (.idiv, 1) := by decide +kernel
theorem dX9_part_19 : decode cX9_part 19 = .ok (.ireturn, 1) := by decide +kernel
theorem dX9_letter_0 : decode cX9_letter 0 = .ok (.iload_n 1, 1) := by decide +kernel
theorem dX9_letter_1 : decode cX9_letter 1 = .ok (.bipush 32, 2) := by decide +kernel
theorem dX9_letter_3 : decode cX9_letter 3 = .ok (.bipush 126, 2) := by decide +kernel
theorem dX9_letter_5 : decode cX9_letter 5 = .ok (.invokestatic 79, 3) := by decide +kernel
theorem dX9_letter_8 : decode cX9_letter 8 = .ok (.ifCond .ne 6, 3) := by decide +kernel
theorem dX9_letter_11 : decode cX9_letter 11 = .ok (.bipush (-102), 2) := by decide +kernel
theorem dX9_letter_13 : decode cX9_letter 13 = .ok (.ireturn, 1) := by decide +kernel
theorem dX9_letter_14 : decode cX9_letter 14 = .ok (.aload_n 0, 1) := by decide +kernel
theorem dX9_letter_15 : decode cX9_letter 15 = .ok (.getfield 83, 3) := by decide +kernel
theorem dX9_letter_18 : decode cX9_letter 18 = .ok (.bipush 50, 2) := by decide +kernel
theorem dX9_letter_20 : decode cX9_letter 20 = .ok (.if_icmp .ne 6, 3) := by decide +kernel
theorem dX9_letter_23 : decode cX9_letter 23 = .ok (.bipush (-104), 2) := by decide +kernel
theorem dX9_letter_25 : decode cX9_letter 25 = .ok (.ireturn, 1) := by decide +kernel
theorem dX9_letter_26 : decode cX9_letter 26 = .ok (.aload_n 0, 1) := by decide +kernel
theorem dX9_letter_27 : decode cX9_letter 27 = .ok (.getfield 34, 3) := by decide +kernel
theorem dX9_letter_30 : decode cX9_letter 30 = .ok (.aload_n 0, 1) := by decide +kernel
theorem dX9_letter_31 : decode cX9_letter 31 = .ok (.getfield 83, 3) := by decide +kernel
theorem dX9_letter_34 : decode cX9_letter 34 = .ok (.iload_n 1, 1) := by decide +kernel
theorem dX9_letter_35 : decode cX9_letter 35 = .ok (.i2b, 1) := by decide +kernel
theorem dX9_letter_36 : decode cX9_letter 36 = .ok (.bastore, 1) := by decide +kernel
theorem dX9_letter_37 : decode cX9_letter 37 = .ok (.aload_n 0, 1) := by decide +kernel
theorem dX9_letter_38 : decode cX9_letter 38 = .ok (.dup, 1) := by decide +kernel
theorem dX9_letter_39 : decode cX9_letter 39 = .ok (.getfield 83, 3) := by decide +kernel
theorem dX9_letter_42 : decode cX9_letter 42 = .ok (.iconst 1, 1) := by decide +kernel
theorem dX9_letter_43 : decode cX9_letter 43 = .ok (.iadd, 1) := by decide +kernel
theorem dX9_letter_44 : decode cX9_letter 44 = .ok (.putfield 83, 3) := by decide +kernel
theorem dX9_letter_47 : decode cX9_letter 47 = .ok (.aload_n 0, 1) := by decide +kernel
theorem dX9_letter_48 : decode cX9_letter 48 = .ok (.getfield 83, 3) := by decide +kernel
theorem dX9_letter_51 : decode cX9_letter 51 = .ok (.ireturn, 1) := by decide +kernel
theorem dX9_blank_0 : decode cX9_blank 0 = .ok (.aload_n 0, 1) := by decide +kernel
theorem dX9_blank_1 : decode cX9_blank 1 = .ok (.getfield 83, 3) := by decide +kernel
theorem dX9_blank_4 : decode cX9_blank 4 = .ok (.istore_n 1, 1) := by decide +kernel
theorem dX9_blank_5 : decode cX9_blank 5 = .ok (.aload_n 0, 1) := by decide +kernel
theorem dX9_blank_6 : decode cX9_blank 6 = .ok (.iconst 0, 1) := by decide +kernel
theorem dX9_blank_7 : decode cX9_blank 7 = .ok (.putfield 83, 3) := by decide +kernel
theorem dX9_blank_10 : decode cX9_blank 10 = .ok (.iload_n 1, 1) := by decide +kernel
theorem dX9_blank_11 : decode cX9_blank 11 = .ok (.ireturn, 1) := by decide +kernel
theorem dX9_kindBy_0 : decode cX9_kindBy 0 = .ok (.iload_n 0, 1) := by decide +kernel
theorem dX9_kindBy_1 : decode cX9_kindBy 1 = .ok (.lookupswitch 61 #[(99, 55), (101, 53), (107, 57), (109, 51), (115, 59)], 51) := by decide +kernel
theorem dX9_kindBy_52 : decode cX9_kindBy 52 = .ok (.iconst 0, 1) := by decide +kernel
theorem dX9_kindBy_53 : decode cX9_kindBy 53 = .ok (.ireturn, 1) := by decide +kernel
theorem dX9_kindBy_54 : decode cX9_kindBy 54 = .ok (.iconst 1, 1) := by decide +kernel
theorem dX9_kindBy_55 : decode cX9_kindBy 55 = .ok (.ireturn, 1) := by decide +kernel
theorem dX9_kindBy_56 : decode cX9_kindBy 56 = .ok (.iconst 2, 1) := by decide +kernel
theorem dX9_kindBy_57 : decode cX9_kindBy 57 = .ok (.ireturn, 1) := by decide +kernel
theorem dX9_kindBy_58 : decode cX9_kindBy 58 = .ok (.iconst 3, 1) := by decide +kernel
theorem dX9_kindBy_59 : decode cX9_kindBy 59 = .ok (.ireturn, 1) := by decide +kernel
theorem dX9_kindBy_60 : decode cX9_kindBy 60 = .ok (.iconst 4, 1) := by decide +kernel
theorem dX9_kindBy_61 : decode cX9_kindBy 61 = .ok (.ireturn, 1) := by decide +kernel
theorem dX9_kindBy_62 : decode cX9_kindBy 62 = .ok (.iconst (-1), 1) := by decide +kernel
theorem dX9_kindBy_63 : decode cX9_kindBy 63 = .ok (.ireturn, 1) := by decide +kernel
theorem dX9_at_0 : decode cX9_at 0 = .ok (.iload_n 1, 1) := by decide +kernel
theorem dX9_at_1 : decode cX9_at 1 = .ok (.aload_n 0, 1) := by decide +kernel
theorem dX9_at_2 : decode cX9_at 2 = .ok (.getfield 83, 3) := by decide +kernel
theorem dX9_at_5 : decode cX9_at 5 = .ok (.if_icmp .ge 12, 3) := by decide +kernel
theorem dX9_at_8 : decode cX9_at 8 = .ok (.aload_n 0, 1) := by decide +kernel
theorem dX9_at_9 : decode cX9_at 9 = .ok (.getfield 34, 3) := by decide +kernel
theorem dX9_at_12 : decode cX9_at 12 = .ok (.iload_n 1, 1) := by decide +kernel
theorem dX9_at_13 : decode cX9_at 13 = .ok (.baload, 1) := by decide +kernel
theorem dX9_at_14 : decode cX9_at 14 = .ok (.goto 4, 3) := by decide +kernel
theorem dX9_at_17 : decode cX9_at 17 = .ok (.iconst 0, 1) := by decide +kernel
theorem dX9_at_18 : decode cX9_at 18 = .ok (.ireturn, 1) := by decide +kernel
theorem dX9_isLean_0 : decode cX9_isLean 0 = .ok (.iload_n 0, 1) := by decide +kernel
theorem dX9_isLean_1 : decode cX9_isLean 1 = .ok (.bipush 43, 2) := by decide +kernel
theorem dX9_isLean_3 : decode cX9_isLean 3 = .ok (.if_icmp .eq 15, 3) := by decide +kernel
theorem dX9_isLean_6 : decode cX9_isLean 6 = .ok (.iload_n 0, 1) := by decide +kernel
theorem dX9_isLean_7 : decode cX9_isLean 7 = .ok (.bipush 45, 2) := by decide +kernel
theorem dX9_isLean_9 : decode cX9_isLean 9 = .ok (.if_icmp .eq 9, 3) := by decide +kernel
theorem dX9_isLean_12 : decode cX9_isLean 12 = .ok (.iload_n 0, 1) := by decide +kernel
theorem dX9_isLean_13 : decode cX9_isLean 13 = .ok (.bipush 48, 2) := by decide +kernel
theorem dX9_isLean_15 : decode cX9_isLean 15 = .ok (.if_icmp .ne 7, 3) := by decide +kernel
theorem dX9_isLean_18 : decode cX9_isLean 18 = .ok (.iconst 1, 1) := by decide +kernel
theorem dX9_isLean_19 : decode cX9_isLean 19 = .ok (.goto 4, 3) := by decide +kernel
theorem dX9_isLean_22 : decode cX9_isLean 22 = .ok (.iconst 0, 1) := by decide +kernel
theorem dX9_isLean_23 : decode cX9_isLean 23 = .ok (.ireturn, 1) := by decide +kernel
theorem dX9_readOne_0 : decode cX9_readOne 0 = .ok (.aload_n 0, 1) := by decide +kernel
theorem dX9_readOne_1 : decode cX9_readOne 1 = .ok (.iload_n 1, 1) := by decide +kernel
theorem dX9_readOne_2 : decode cX9_readOne 2 = .ok (.invokevirtual 87, 3) := by decide +kernel
theorem dX9_readOne_5 : decode cX9_readOne 5 = .ok (.invokestatic 91, 3) := by decide +kernel
theorem dX9_readOne_8 : decode cX9_readOne 8 = .ok (.iconst (-1), 1) := by decide +kernel
theorem dX9_readOne_9 : decode cX9_readOne 9 = .ok (.if_icmp .ne 5, 3) := by decide +kernel
theorem dX9_readOne_12 : decode cX9_readOne 12 = .ok (.iload_n 1, 1) := by decide +kernel
theorem dX9_readOne_13 : decode cX9_readOne 13 = .ok (.ireturn, 1) := by decide +kernel
theorem dX9_readOne_14 : decode cX9_readOne 14 = .ok (.aload_n 0, 1) := by decide +kernel
theorem dX9_readOne_15 : decode cX9_readOne 15 = .ok (.iload_n 1, 1) := by decide +kernel
theorem dX9_readOne_16 : decode cX9_readOne 16 = .ok (.iconst 1, 1) := by decide +kernel
theorem dX9_readOne_17 : decode cX9_readOne 17 = .ok (.iadd, 1) := by decide +kernel
theorem dX9_readOne_18 : decode cX9_readOne 18 = .ok (.invokevirtual 87, 3) := by decide +kernel
theorem dX9_readOne_21 : decode cX9_readOne 21 = .ok (.bipush 48, 2) := by decide +kernel
theorem dX9_readOne_23 : decode cX9_readOne 23 = .ok (.isub, 1) := by decide +kernel
theorem dX9_readOne_24 : decode cX9_readOne 24 = .ok (.iconst 1, 1) := by decide +kernel
theorem dX9_readOne_25 : decode cX9_readOne 25 = .ok (.bipush 9, 2) := by decide +kernel
theorem dX9_readOne_27 : decode cX9_readOne 27 = .ok (.invokestatic 79, 3) := by decide +kernel
theorem dX9_readOne_30 : decode cX9_readOne 30 = .ok (.ifCond .ne 7, 3) := by decide +kernel
theorem dX9_readOne_33 : decode cX9_readOne 33 = .ok (.iload_n 1, 1) := by decide +kernel
theorem dX9_readOne_34 : decode cX9_readOne 34 = .ok (.iconst 1, 1) := by decide +kernel
theorem dX9_readOne_35 : decode cX9_readOne 35 = .ok (.iadd, 1) := by decide +kernel
theorem dX9_readOne_36 : decode cX9_readOne 36 = .ok (.ireturn, 1) := by decide +kernel
theorem dX9_readOne_37 : decode cX9_readOne 37 = .ok (.iload_n 1, 1) := by decide +kernel
theorem dX9_readOne_38 : decode cX9_readOne 38 = .ok (.iconst 2, 1) := by decide +kernel
theorem dX9_readOne_39 : decode cX9_readOne 39 = .ok (.iadd, 1) := by decide +kernel
theorem dX9_readOne_40 : decode cX9_readOne 40 = .ok (.istore_n 2, 1) := by decide +kernel
theorem dX9_readOne_41 : decode cX9_readOne 41 = .ok (.iload_n 2, 1) := by decide +kernel
theorem dX9_readOne_42 : decode cX9_readOne 42 = .ok (.iload_n 1, 1) := by decide +kernel
theorem dX9_readOne_43 : decode cX9_readOne 43 = .ok (.iconst 5, 1) := by decide +kernel
theorem dX9_readOne_44 : decode cX9_readOne 44 = .ok (.iadd, 1) := by decide +kernel
theorem dX9_readOne_45 : decode cX9_readOne 45 = .ok (.if_icmp .ge 20, 3) := by decide +kernel
theorem dX9_readOne_48 : decode cX9_readOne 48 = .ok (.aload_n 0, 1) := by decide +kernel
theorem dX9_readOne_49 : decode cX9_readOne 49 = .ok (.iload_n 2, 1) := by decide +kernel
theorem dX9_readOne_50 : decode cX9_readOne 50 = .ok (.invokevirtual 87, 3) := by decide +kernel
theorem dX9_readOne_53 : decode cX9_readOne 53 = .ok (.invokestatic 94, 3) := by decide +kernel
theorem dX9_readOne_56 : decode cX9_readOne 56 = .ok (.ifCond .eq 9, 3) := by decide +kernel
theorem dX9_readOne_59 : decode cX9_readOne 59 = .ok (.iinc 2 1, 3) := by decide +kernel
theorem dX9_readOne_62 : decode cX9_readOne 62 = .ok (.goto (-21), 3) := by decide +kernel
theorem dX9_readOne_65 : decode cX9_readOne 65 = .ok (.iload_n 2, 1) := by decide +kernel
theorem dX9_readOne_66 : decode cX9_readOne 66 = .ok (.ireturn, 1) := by decide +kernel
theorem dX9_read_0 : decode cX9_read 0 = .ok (.aload_n 0, 1) := by decide +kernel
theorem dX9_read_1 : decode cX9_read 1 = .ok (.iconst 0, 1) := by decide +kernel
theorem dX9_read_2 : decode cX9_read 2 = .ok (.putfield 98, 3) := by decide +kernel
theorem dX9_read_5 : decode cX9_read 5 = .ok (.aload_n 0, 1) := by decide +kernel
theorem dX9_read_6 : decode cX9_read 6 = .ok (.iconst 0, 1) := by decide +kernel
theorem dX9_read_7 : decode cX9_read 7 = .ok (.putfield 102, 3) := by decide +kernel
theorem dX9_read_10 : decode cX9_read 10 = .ok (.iconst 0, 1) := by decide +kernel
theorem dX9_read_11 : decode cX9_read 11 = .ok (.istore_n 1, 1) := by decide +kernel
theorem dX9_read_12 : decode cX9_read 12 = .ok (.aload_n 0, 1) := by decide +kernel
theorem dX9_read_13 : decode cX9_read 13 = .ok (.getfield 102, 3) := by decide +kernel
theorem dX9_read_16 : decode cX9_read 16 = .ok (.bipush 8, 2) := by decide +kernel
theorem dX9_read_18 : decode cX9_read 18 = .ok (.if_icmp .ge 82, 3) := by decide +kernel
theorem dX9_read_21 : decode cX9_read 21 = .ok (.aload_n 0, 1) := by decide +kernel
theorem dX9_read_22 : decode cX9_read 22 = .ok (.iload_n 1, 1) := by decide +kernel
theorem dX9_read_23 : decode cX9_read 23 = .ok (.invokevirtual 105, 3) := by decide +kernel
theorem dX9_read_26 : decode cX9_read 26 = .ok (.istore_n 2, 1) := by decide +kernel
theorem dX9_read_27 : decode cX9_read 27 = .ok (.iload_n 2, 1) := by decide +kernel
theorem dX9_read_28 : decode cX9_read 28 = .ok (.iload_n 1, 1) := by decide +kernel
theorem dX9_read_29 : decode cX9_read 29 = .ok (.iconst 5, 1) := by decide +kernel
theorem dX9_read_30 : decode cX9_read 30 = .ok (.iadd, 1) := by decide +kernel
theorem dX9_read_31 : decode cX9_read 31 = .ok (.if_icmp .eq 5, 3) := by decide +kernel
theorem dX9_read_34 : decode cX9_read 34 = .ok (.iload_n 2, 1) := by decide +kernel
theorem dX9_read_35 : decode cX9_read 35 = .ok (.ireturn, 1) := by decide +kernel
theorem dX9_read_36 : decode cX9_read 36 = .ok (.aload_n 0, 1) := by decide +kernel
theorem dX9_read_37 : decode cX9_read 37 = .ok (.dup, 1) := by decide +kernel
theorem dX9_read_38 : decode cX9_read 38 = .ok (.getfield 102, 3) := by decide +kernel
theorem dX9_read_41 : decode cX9_read 41 = .ok (.iconst 1, 1) := by decide +kernel
theorem dX9_read_42 : decode cX9_read 42 = .ok (.iadd, 1) := by decide +kernel
theorem dX9_read_43 : decode cX9_read 43 = .ok (.putfield 102, 3) := by decide +kernel
theorem dX9_read_46 : decode cX9_read 46 = .ok (.iload_n 2, 1) := by decide +kernel
theorem dX9_read_47 : decode cX9_read 47 = .ok (.istore_n 1, 1) := by decide +kernel
theorem dX9_read_48 : decode cX9_read 48 = .ok (.aload_n 0, 1) := by decide +kernel
theorem dX9_read_49 : decode cX9_read 49 = .ok (.iload_n 1, 1) := by decide +kernel
theorem dX9_read_50 : decode cX9_read 50 = .ok (.aload_n 0, 1) := by decide +kernel
theorem dX9_read_51 : decode cX9_read 51 = .ok (.getfield 83, 3) := by decide +kernel
theorem dX9_read_54 : decode cX9_read 54 = .ok (.if_icmp .ne 15, 3) := by decide +kernel
theorem dX9_read_57 : decode cX9_read 57 = .ok (.aload_n 0, 1) := by decide +kernel
theorem dX9_read_58 : decode cX9_read 58 = .ok (.getfield 102, 3) := by decide +kernel
theorem dX9_read_61 : decode cX9_read 61 = .ok (.iconst 1, 1) := by decide +kernel
theorem dX9_read_62 : decode cX9_read 62 = .ok (.if_icmp .le 7, 3) := by decide +kernel
theorem dX9_read_65 : decode cX9_read 65 = .ok (.iconst 1, 1) := by decide +kernel
theorem dX9_read_66 : decode cX9_read 66 = .ok (.goto 4, 3) := by decide +kernel
theorem dX9_read_69 : decode cX9_read 69 = .ok (.iconst 0, 1) := by decide +kernel
theorem dX9_read_70 : decode cX9_read 70 = .ok (.putfield 98, 3) := by decide +kernel
theorem dX9_read_73 : decode cX9_read 73 = .ok (.aload_n 0, 1) := by decide +kernel
theorem dX9_read_74 : decode cX9_read 74 = .ok (.getfield 102, 3) := by decide +kernel
theorem dX9_read_77 : decode cX9_read 77 = .ok (.bipush 8, 2) := by decide +kernel
theorem dX9_read_79 : decode cX9_read 79 = .ok (.if_icmp .eq 13, 3) := by decide +kernel
theorem dX9_read_82 : decode cX9_read 82 = .ok (.aload_n 0, 1) := by decide +kernel
theorem dX9_read_83 : decode cX9_read 83 = .ok (.iload_n 1, 1) := by decide +kernel
theorem dX9_read_84 : decode cX9_read 84 = .ok (.invokevirtual 87, 3) := by decide +kernel
theorem dX9_read_87 : decode cX9_read 87 = .ok (.bipush 44, 2) := by decide +kernel
theorem dX9_read_89 : decode cX9_read 89 = .ok (.if_icmp .eq 5, 3) := by decide +kernel
theorem dX9_read_92 : decode cX9_read 92 = .ok (.iload_n 1, 1) := by decide +kernel
theorem dX9_read_93 : decode cX9_read 93 = .ok (.ireturn, 1) := by decide +kernel
theorem dX9_read_94 : decode cX9_read 94 = .ok (.iinc 1 1, 3) := by decide +kernel
theorem dX9_read_97 : decode cX9_read 97 = .ok (.goto (-85), 3) := by decide +kernel
theorem dX9_read_100 : decode cX9_read 100 = .ok (.iload_n 1, 1) := by decide +kernel
theorem dX9_read_101 : decode cX9_read 101 = .ok (.ireturn, 1) := by decide +kernel
theorem dX9_fault_0 : decode cX9_fault 0 = .ok (.aload_n 0, 1) := by decide +kernel
theorem dX9_fault_1 : decode cX9_fault 1 = .ok (.invokevirtual 108, 3) := by decide +kernel
theorem dX9_fault_4 : decode cX9_fault 4 = .ok (.ireturn, 1) := by decide +kernel
theorem dX9_rope_0 : decode cX9_rope 0 = .ok (.aload_n 0, 1) := by decide +kernel
theorem dX9_rope_1 : decode cX9_rope 1 = .ok (.invokevirtual 108, 3) := by decide +kernel
theorem dX9_rope_4 : decode cX9_rope 4 = .ok (.pop, 1) := by decide +kernel
theorem dX9_rope_5 : decode cX9_rope 5 = .ok (.aload_n 0, 1) := by decide +kernel
theorem dX9_rope_6 : decode cX9_rope 6 = .ok (.getfield 98, 3) := by decide +kernel
theorem dX9_rope_9 : decode cX9_rope 9 = .ok (.ifCond .ne 6, 3) := by decide +kernel
theorem dX9_rope_12 : decode cX9_rope 12 = .ok (.bipush (-103), 2) := by decide +kernel
theorem dX9_rope_14 : decode cX9_rope 14 = .ok (.ireturn, 1) := by decide +kernel
theorem dX9_rope_15 : decode cX9_rope 15 = .ok (.aload_n 0, 1) := by decide +kernel
theorem dX9_rope_16 : decode cX9_rope 16 = .ok (.aload_n 0, 1) := by decide +kernel
theorem dX9_rope_17 : decode cX9_rope 17 = .ok (.getfield 102, 3) := by decide +kernel
theorem dX9_rope_20 : decode cX9_rope 20 = .ok (.putfield 112, 3) := by decide +kernel
theorem dX9_rope_23 : decode cX9_rope 23 = .ok (.iconst 0, 1) := by decide +kernel
theorem dX9_rope_24 : decode cX9_rope 24 = .ok (.istore_n 1, 1) := by decide +kernel
theorem dX9_rope_25 : decode cX9_rope 25 = .ok (.iload_n 1, 1) := by decide +kernel
theorem dX9_rope_26 : decode cX9_rope 26 = .ok (.aload_n 0, 1) := by decide +kernel
theorem dX9_rope_27 : decode cX9_rope 27 = .ok (.getfield 112, 3) := by decide +kernel
theorem dX9_rope_30 : decode cX9_rope 30 = .ok (.if_icmp .ge 105, 3) := by decide +kernel
theorem dX9_rope_33 : decode cX9_rope 33 = .ok (.aload_n 0, 1) := by decide +kernel
theorem dX9_rope_34 : decode cX9_rope 34 = .ok (.getfield 7, 3) := by decide +kernel
theorem dX9_rope_37 : decode cX9_rope 37 = .ok (.iload_n 1, 1) := by decide +kernel
theorem dX9_rope_38 : decode cX9_rope 38 = .ok (.aload_n 0, 1) := by decide +kernel
theorem dX9_rope_39 : decode cX9_rope 39 = .ok (.getfield 34, 3) := by decide +kernel
theorem dX9_rope_42 : decode cX9_rope 42 = .ok (.bipush 6, 2) := by decide +kernel
theorem dX9_rope_44 : decode cX9_rope 44 = .ok (.iload_n 1, 1) := by decide +kernel
theorem dX9_rope_45 : decode cX9_rope 45 = .ok (.imul, 1) := by decide +kernel
theorem dX9_rope_46 : decode cX9_rope 46 = .ok (.baload, 1) := by decide +kernel
theorem dX9_rope_47 : decode cX9_rope 47 = .ok (.invokestatic 91, 3) := by decide +kernel
theorem dX9_rope_50 : decode cX9_rope 50 = .ok (.iastore, 1) := by decide +kernel
theorem dX9_rope_51 : decode cX9_rope 51 = .ok (.aload_n 0, 1) := by decide +kernel
theorem dX9_rope_52 : decode cX9_rope 52 = .ok (.getfield 13, 3) := by decide +kernel
theorem dX9_rope_55 : decode cX9_rope 55 = .ok (.iload_n 1, 1) := by decide +kernel
theorem dX9_rope_56 : decode cX9_rope 56 = .ok (.aload_n 0, 1) := by decide +kernel
theorem dX9_rope_57 : decode cX9_rope 57 = .ok (.getfield 34, 3) := by decide +kernel
theorem dX9_rope_60 : decode cX9_rope 60 = .ok (.bipush 6, 2) := by decide +kernel
theorem dX9_rope_62 : decode cX9_rope 62 = .ok (.iload_n 1, 1) := by decide +kernel
theorem dX9_rope_63 : decode cX9_rope 63 = .ok (.imul, 1) := by decide +kernel
theorem dX9_rope_64 : decode cX9_rope 64 = .ok (.iconst 1, 1) := by decide +kernel
theorem dX9_rope_65 : decode cX9_rope 65 = .ok (.iadd, 1) := by decide +kernel
theorem dX9_rope_66 : decode cX9_rope 66 = .ok (.baload, 1) := by decide +kernel
theorem dX9_rope_67 : decode cX9_rope 67 = .ok (.bipush 48, 2) := by decide +kernel
theorem dX9_rope_69 : decode cX9_rope 69 = .ok (.isub, 1) := by decide +kernel
theorem dX9_rope_70 : decode cX9_rope 70 = .ok (.iastore, 1) := by decide +kernel
theorem dX9_rope_71 : decode cX9_rope 71 = .ok (.iconst 0, 1) := by decide +kernel
theorem dX9_rope_72 : decode cX9_rope 72 = .ok (.istore_n 2, 1) := by decide +kernel
theorem dX9_rope_73 : decode cX9_rope 73 = .ok (.iload_n 2, 1) := by decide +kernel
theorem dX9_rope_74 : decode cX9_rope 74 = .ok (.iconst 3, 1) := by decide +kernel
theorem dX9_rope_75 : decode cX9_rope 75 = .ok (.if_icmp .ge 54, 3) := by decide +kernel
theorem dX9_rope_78 : decode cX9_rope 78 = .ok (.aload_n 0, 1) := by decide +kernel
theorem dX9_rope_79 : decode cX9_rope 79 = .ok (.getfield 34, 3) := by decide +kernel
theorem dX9_rope_82 : decode cX9_rope 82 = .ok (.bipush 6, 2) := by decide +kernel
theorem dX9_rope_84 : decode cX9_rope 84 = .ok (.iload_n 1, 1) := by decide +kernel
theorem dX9_rope_85 : decode cX9_rope 85 = .ok (.imul, 1) := by decide +kernel
theorem dX9_rope_86 : decode cX9_rope 86 = .ok (.iconst 2, 1) := by decide +kernel
theorem dX9_rope_87 : decode cX9_rope 87 = .ok (.iadd, 1) := by decide +kernel
theorem dX9_rope_88 : decode cX9_rope 88 = .ok (.iload_n 2, 1) := by decide +kernel
theorem dX9_rope_89 : decode cX9_rope 89 = .ok (.iadd, 1) := by decide +kernel
theorem dX9_rope_90 : decode cX9_rope 90 = .ok (.baload, 1) := by decide +kernel
theorem dX9_rope_91 : decode cX9_rope 91 = .ok (.istore_n 3, 1) := by decide +kernel
theorem dX9_rope_92 : decode cX9_rope 92 = .ok (.aload_n 0, 1) := by decide +kernel
theorem dX9_rope_93 : decode cX9_rope 93 = .ok (.getfield 16, 3) := by decide +kernel
theorem dX9_rope_96 : decode cX9_rope 96 = .ok (.iconst 3, 1) := by decide +kernel
theorem dX9_rope_97 : decode cX9_rope 97 = .ok (.iload_n 1, 1) := by decide +kernel
theorem dX9_rope_98 : decode cX9_rope 98 = .ok (.imul, 1) := by decide +kernel
theorem dX9_rope_99 : decode cX9_rope 99 = .ok (.iload_n 2, 1) := by decide +kernel
theorem dX9_rope_100 : decode cX9_rope 100 = .ok (.iadd, 1) := by decide +kernel
theorem dX9_rope_101 : decode cX9_rope 101 = .ok (.iload_n 3, 1) := by decide +kernel
theorem dX9_rope_102 : decode cX9_rope 102 = .ok (.bipush 43, 2) := by decide +kernel
theorem dX9_rope_104 : decode cX9_rope 104 = .ok (.if_icmp .ne 7, 3) := by decide +kernel
theorem dX9_rope_107 : decode cX9_rope 107 = .ok (.iconst 1, 1) := by decide +kernel
theorem dX9_rope_108 : decode cX9_rope 108 = .ok (.goto 14, 3) := by decide +kernel
theorem dX9_rope_111 : decode cX9_rope 111 = .ok (.iload_n 3, 1) := by decide +kernel
theorem dX9_rope_112 : decode cX9_rope 112 = .ok (.bipush 45, 2) := by decide +kernel
theorem dX9_rope_114 : decode cX9_rope 114 = .ok (.if_icmp .ne 7, 3) := by decide +kernel
theorem dX9_rope_117 : decode cX9_rope 117 = .ok (.iconst (-1), 1) := by decide +kernel
theorem dX9_rope_118 : decode cX9_rope 118 = .ok (.goto 4, 3) := by decide +kernel
theorem dX9_rope_121 : decode cX9_rope 121 = .ok (.iconst 0, 1) := by decide +kernel
theorem dX9_rope_122 : decode cX9_rope 122 = .ok (.iastore, 1) := by decide +kernel
theorem dX9_rope_123 : decode cX9_rope 123 = .ok (.iinc 2 1, 3) := by decide +kernel
theorem dX9_rope_126 : decode cX9_rope 126 = .ok (.goto (-53), 3) := by decide +kernel
theorem dX9_rope_129 : decode cX9_rope 129 = .ok (.iinc 1 1, 3) := by decide +kernel
theorem dX9_rope_132 : decode cX9_rope 132 = .ok (.goto (-107), 3) := by decide +kernel
theorem dX9_rope_135 : decode cX9_rope 135 = .ok (.aload_n 0, 1) := by decide +kernel
theorem dX9_rope_136 : decode cX9_rope 136 = .ok (.iconst 0, 1) := by decide +kernel
theorem dX9_rope_137 : decode cX9_rope 137 = .ok (.putfield 115, 3) := by decide +kernel
theorem dX9_rope_140 : decode cX9_rope 140 = .ok (.aload_n 0, 1) := by decide +kernel
theorem dX9_rope_141 : decode cX9_rope 141 = .ok (.iconst 0, 1) := by decide +kernel
theorem dX9_rope_142 : decode cX9_rope 142 = .ok (.putfield 118, 3) := by decide +kernel
theorem dX9_rope_145 : decode cX9_rope 145 = .ok (.iconst 0, 1) := by decide +kernel
theorem dX9_rope_146 : decode cX9_rope 146 = .ok (.istore_n 1, 1) := by decide +kernel
theorem dX9_rope_147 : decode cX9_rope 147 = .ok (.iload_n 1, 1) := by decide +kernel
theorem dX9_rope_148 : decode cX9_rope 148 = .ok (.iconst 3, 1) := by decide +kernel
theorem dX9_rope_149 : decode cX9_rope 149 = .ok (.if_icmp .ge 23, 3) := by decide +kernel
theorem dX9_rope_152 : decode cX9_rope 152 = .ok (.aload_n 0, 1) := by decide +kernel
theorem dX9_rope_153 : decode cX9_rope 153 = .ok (.getfield 19, 3) := by decide +kernel
theorem dX9_rope_156 : decode cX9_rope 156 = .ok (.iload_n 1, 1) := by decide +kernel
theorem dX9_rope_157 : decode cX9_rope 157 = .ok (.iconst 0, 1) := by decide +kernel
theorem dX9_rope_158 : decode cX9_rope 158 = .ok (.iastore, 1) := by decide +kernel
theorem dX9_rope_159 : decode cX9_rope 159 = .ok (.aload_n 0, 1) := by decide +kernel
theorem dX9_rope_160 : decode cX9_rope 160 = .ok (.getfield 22, 3) := by decide +kernel
theorem dX9_rope_163 : decode cX9_rope 163 = .ok (.iload_n 1, 1) := by decide +kernel
theorem dX9_rope_164 : decode cX9_rope 164 = .ok (.iconst 0, 1) := by decide +kernel
theorem dX9_rope_165 : decode cX9_rope 165 = .ok (.iastore, 1) := by decide +kernel
theorem dX9_rope_166 : decode cX9_rope 166 = .ok (.iinc 1 1, 3) := by decide +kernel
theorem dX9_rope_169 : decode cX9_rope 169 = .ok (.goto (-22), 3) := by decide +kernel
theorem dX9_rope_172 : decode cX9_rope 172 = .ok (.aload_n 0, 1) := by decide +kernel
theorem dX9_rope_173 : decode cX9_rope 173 = .ok (.dup, 1) := by decide +kernel
theorem dX9_rope_174 : decode cX9_rope 174 = .ok (.getfield 121, 3) := by decide +kernel
theorem dX9_rope_177 : decode cX9_rope 177 = .ok (.iconst 1, 1) := by decide +kernel
theorem dX9_rope_178 : decode cX9_rope 178 = .ok (.iadd, 1) := by decide +kernel
theorem dX9_rope_179 : decode cX9_rope 179 = .ok (.putfield 121, 3) := by decide +kernel
theorem dX9_rope_182 : decode cX9_rope 182 = .ok (.aload_n 0, 1) := by decide +kernel
theorem dX9_rope_183 : decode cX9_rope 183 = .ok (.iconst 0, 1) := by decide +kernel
theorem dX9_rope_184 : decode cX9_rope 184 = .ok (.putfield 124, 3) := by decide +kernel
theorem dX9_rope_187 : decode cX9_rope 187 = .ok (.aload_n 0, 1) := by decide +kernel
theorem dX9_rope_188 : decode cX9_rope 188 = .ok (.iconst 0, 1) := by decide +kernel
theorem dX9_rope_189 : decode cX9_rope 189 = .ok (.putfield 83, 3) := by decide +kernel
theorem dX9_rope_192 : decode cX9_rope 192 = .ok (.aload_n 0, 1) := by decide +kernel
theorem dX9_rope_193 : decode cX9_rope 193 = .ok (.getfield 112, 3) := by decide +kernel
theorem dX9_rope_196 : decode cX9_rope 196 = .ok (.ireturn, 1) := by decide +kernel
theorem dX9_isMussel_0 : decode cX9_isMussel 0 = .ok (.iload_n 1, 1) := by decide +kernel
theorem dX9_isMussel_1 : decode cX9_isMussel 1 = .ok (.iconst 0, 1) := by decide +kernel
theorem dX9_isMussel_2 : decode cX9_isMussel 2 = .ok (.aload_n 0, 1) := by decide +kernel
theorem dX9_isMussel_3 : decode cX9_isMussel 3 = .ok (.getfield 112, 3) := by decide +kernel
theorem dX9_isMussel_6 : decode cX9_isMussel 6 = .ok (.iconst 1, 1) := by decide +kernel
theorem dX9_isMussel_7 : decode cX9_isMussel 7 = .ok (.isub, 1) := by decide +kernel
theorem dX9_isMussel_8 : decode cX9_isMussel 8 = .ok (.invokestatic 79, 3) := by decide +kernel
theorem dX9_isMussel_11 : decode cX9_isMussel 11 = .ok (.ireturn, 1) := by decide +kernel
theorem dX9_isQuestion_0 : decode cX9_isQuestion 0 = .ok (.aload_n 0, 1) := by decide +kernel
theorem dX9_isQuestion_1 : decode cX9_isQuestion 1 = .ok (.getfield 112, 3) := by decide +kernel
theorem dX9_isQuestion_4 : decode cX9_isQuestion 4 = .ok (.ifCond .le 16, 3) := by decide +kernel
theorem dX9_isQuestion_7 : decode cX9_isQuestion 7 = .ok (.iload_n 1, 1) := by decide +kernel
theorem dX9_isQuestion_8 : decode cX9_isQuestion 8 = .ok (.iconst 0, 1) := by decide +kernel
theorem dX9_isQuestion_9 : decode cX9_isQuestion 9 = .ok (.iconst 2, 1) := by decide +kernel
theorem dX9_isQuestion_10 : decode cX9_isQuestion 10 = .ok (.invokestatic 79, 3) := by decide +kernel
theorem dX9_isQuestion_13 : decode cX9_isQuestion 13 = .ok (.ifCond .eq 7, 3) := by decide +kernel
theorem dX9_isQuestion_16 : decode cX9_isQuestion 16 = .ok (.iconst 1, 1) := by decide +kernel
theorem dX9_isQuestion_17 : decode cX9_isQuestion 17 = .ok (.goto 4, 3) := by decide +kernel
theorem dX9_isQuestion_20 : decode cX9_isQuestion 20 = .ok (.iconst 0, 1) := by decide +kernel
theorem dX9_isQuestion_21 : decode cX9_isQuestion 21 = .ok (.ireturn, 1) := by decide +kernel
theorem dX9_isFelt_0 : decode cX9_isFelt 0 = .ok (.aload_n 0, 1) := by decide +kernel
theorem dX9_isFelt_1 : decode cX9_isFelt 1 = .ok (.getfield 115, 3) := by decide +kernel
theorem dX9_isFelt_4 : decode cX9_isFelt 4 = .ok (.iconst 2, 1) := by decide +kernel
theorem dX9_isFelt_5 : decode cX9_isFelt 5 = .ok (.iload_n 1, 1) := by decide +kernel
theorem dX9_isFelt_6 : decode cX9_isFelt 6 = .ok (.ishl, 1) := by decide +kernel
theorem dX9_isFelt_7 : decode cX9_isFelt 7 = .ok (.iconst 1, 1) := by decide +kernel
theorem dX9_isFelt_8 : decode cX9_isFelt 8 = .ok (.isub, 1) := by decide +kernel
theorem dX9_isFelt_9 : decode cX9_isFelt 9 = .ok (.iand, 1) := by decide +kernel
theorem dX9_isFelt_10 : decode cX9_isFelt 10 = .ok (.ifCond .ne 7, 3) := by decide +kernel
theorem dX9_isFelt_13 : decode cX9_isFelt 13 = .ok (.iconst 1, 1) := by decide +kernel
theorem dX9_isFelt_14 : decode cX9_isFelt 14 = .ok (.goto 4, 3) := by decide +kernel
theorem dX9_isFelt_17 : decode cX9_isFelt 17 = .ok (.iconst 0, 1) := by decide +kernel
theorem dX9_isFelt_18 : decode cX9_isFelt 18 = .ok (.ireturn, 1) := by decide +kernel
theorem dX9_felt_0 : decode cX9_felt 0 = .ok (.iconst 0, 1) := by decide +kernel
theorem dX9_felt_1 : decode cX9_felt 1 = .ok (.istore_n 1, 1) := by decide +kernel
theorem dX9_felt_2 : decode cX9_felt 2 = .ok (.iconst 0, 1) := by decide +kernel
theorem dX9_felt_3 : decode cX9_felt 3 = .ok (.istore_n 2, 1) := by decide +kernel
theorem dX9_felt_4 : decode cX9_felt 4 = .ok (.iload_n 2, 1) := by decide +kernel
theorem dX9_felt_5 : decode cX9_felt 5 = .ok (.aload_n 0, 1) := by decide +kernel
theorem dX9_felt_6 : decode cX9_felt 6 = .ok (.getfield 112, 3) := by decide +kernel
theorem dX9_felt_9 : decode cX9_felt 9 = .ok (.if_icmp .ge 27, 3) := by decide +kernel
theorem dX9_felt_12 : decode cX9_felt 12 = .ok (.iload_n 1, 1) := by decide +kernel
theorem dX9_felt_13 : decode cX9_felt 13 = .ok (.aload_n 0, 1) := by decide +kernel
theorem dX9_felt_14 : decode cX9_felt 14 = .ok (.iload_n 2, 1) := by decide +kernel
theorem dX9_felt_15 : decode cX9_felt 15 = .ok (.invokevirtual 127, 3) := by decide +kernel
theorem dX9_felt_18 : decode cX9_felt 18 = .ok (.ifCond .eq 9, 3) := by decide +kernel
theorem dX9_felt_21 : decode cX9_felt 21 = .ok (.iconst 1, 1) := by decide +kernel
theorem dX9_felt_22 : decode cX9_felt 22 = .ok (.iload_n 2, 1) := by decide +kernel
theorem dX9_felt_23 : decode cX9_felt 23 = .ok (.ishl, 1) := by decide +kernel
theorem dX9_felt_24 : decode cX9_felt 24 = .ok (.goto 4, 3) := by decide +kernel
theorem dX9_felt_27 : decode cX9_felt 27 = .ok (.iconst 0, 1) := by decide +kernel
theorem dX9_felt_28 : decode cX9_felt 28 = .ok (.ior, 1) := by decide +kernel
theorem dX9_felt_29 : decode cX9_felt 29 = .ok (.istore_n 1, 1) := by decide +kernel
theorem dX9_felt_30 : decode cX9_felt 30 = .ok (.iinc 2 1, 3) := by decide +kernel
theorem dX9_felt_33 : decode cX9_felt 33 = .ok (.goto (-29), 3) := by decide +kernel
theorem dX9_felt_36 : decode cX9_felt 36 = .ok (.iload_n 1, 1) := by decide +kernel
theorem dX9_felt_37 : decode cX9_felt 37 = .ok (.ireturn, 1) := by decide +kernel
theorem dX9_leanAhead_0 : decode cX9_leanAhead 0 = .ok (.iload_n 1, 1) := by decide +kernel
theorem dX9_leanAhead_1 : decode cX9_leanAhead 1 = .ok (.ifCond .le 29, 3) := by decide +kernel
theorem dX9_leanAhead_4 : decode cX9_leanAhead 4 = .ok (.aload_n 0, 1) := by decide +kernel
theorem dX9_leanAhead_5 : decode cX9_leanAhead 5 = .ok (.getfield 115, 3) := by decide +kernel
theorem dX9_leanAhead_8 : decode cX9_leanAhead 8 = .ok (.iload_n 1, 1) := by decide +kernel
theorem dX9_leanAhead_9 : decode cX9_leanAhead 9 = .ok (.invokestatic 130, 3) := by decide +kernel
theorem dX9_leanAhead_12 : decode cX9_leanAhead 12 = .ok (.ifCond .ne 18, 3) := by decide +kernel
theorem dX9_leanAhead_15 : decode cX9_leanAhead 15 = .ok (.aload_n 0, 1) := by decide +kernel
theorem dX9_leanAhead_16 : decode cX9_leanAhead 16 = .ok (.getfield 16, 3) := by decide +kernel
theorem dX9_leanAhead_19 : decode cX9_leanAhead 19 = .ok (.iconst 3, 1) := by decide +kernel
theorem dX9_leanAhead_20 : decode cX9_leanAhead 20 = .ok (.iload_n 1, 1) := by decide +kernel
theorem dX9_leanAhead_21 : decode cX9_leanAhead 21 = .ok (.imul, 1) := by decide +kernel
theorem dX9_leanAhead_22 : decode cX9_leanAhead 22 = .ok (.iconst 3, 1) := by decide +kernel
theorem dX9_leanAhead_23 : decode cX9_leanAhead 23 = .ok (.isub, 1) := by decide +kernel
theorem dX9_leanAhead_24 : decode cX9_leanAhead 24 = .ok (.iload_n 2, 1) := by decide +kernel
theorem dX9_leanAhead_25 : decode cX9_leanAhead 25 = .ok (.iadd, 1) := by decide +kernel
theorem dX9_leanAhead_26 : decode cX9_leanAhead 26 = .ok (.iaload, 1) := by decide +kernel
theorem dX9_leanAhead_27 : decode cX9_leanAhead 27 = .ok (.goto 4, 3) := by decide +kernel
theorem dX9_leanAhead_30 : decode cX9_leanAhead 30 = .ok (.iconst 0, 1) := by decide +kernel
theorem dX9_leanAhead_31 : decode cX9_leanAhead 31 = .ok (.ireturn, 1) := by decide +kernel
theorem dX9_leanBehind_0 : decode cX9_leanBehind 0 = .ok (.iload_n 1, 1) := by decide +kernel
theorem dX9_leanBehind_1 : decode cX9_leanBehind 1 = .ok (.iconst 1, 1) := by decide +kernel
theorem dX9_leanBehind_2 : decode cX9_leanBehind 2 = .ok (.iadd, 1) := by decide +kernel
theorem dX9_leanBehind_3 : decode cX9_leanBehind 3 = .ok (.aload_n 0, 1) := by decide +kernel
theorem dX9_leanBehind_4 : decode cX9_leanBehind 4 = .ok (.getfield 112, 3) := by decide +kernel
theorem dX9_leanBehind_7 : decode cX9_leanBehind 7 = .ok (.if_icmp .ge 31, 3) := by decide +kernel
theorem dX9_leanBehind_10 : decode cX9_leanBehind 10 = .ok (.aload_n 0, 1) := by decide +kernel
theorem dX9_leanBehind_11 : decode cX9_leanBehind 11 = .ok (.getfield 115, 3) := by decide +kernel
theorem dX9_leanBehind_14 : decode cX9_leanBehind 14 = .ok (.iload_n 1, 1) := by decide +kernel
theorem dX9_leanBehind_15 : decode cX9_leanBehind 15 = .ok (.iconst 1, 1) := by decide +kernel
theorem dX9_leanBehind_16 : decode cX9_leanBehind 16 = .ok (.iadd, 1) := by decide +kernel
theorem dX9_leanBehind_17 : decode cX9_leanBehind 17 = .ok (.invokestatic 130, 3) := by decide +kernel
theorem dX9_leanBehind_20 : decode cX9_leanBehind 20 = .ok (.ifCond .ne 18, 3) := by decide +kernel
theorem dX9_leanBehind_23 : decode cX9_leanBehind 23 = .ok (.aload_n 0, 1) := by decide +kernel
theorem dX9_leanBehind_24 : decode cX9_leanBehind 24 = .ok (.getfield 16, 3) := by decide +kernel
theorem dX9_leanBehind_27 : decode cX9_leanBehind 27 = .ok (.iconst 3, 1) := by decide +kernel
theorem dX9_leanBehind_28 : decode cX9_leanBehind 28 = .ok (.iload_n 1, 1) := by decide +kernel
theorem dX9_leanBehind_29 : decode cX9_leanBehind 29 = .ok (.imul, 1) := by decide +kernel
theorem dX9_leanBehind_30 : decode cX9_leanBehind 30 = .ok (.iconst 3, 1) := by decide +kernel
theorem dX9_leanBehind_31 : decode cX9_leanBehind 31 = .ok (.iadd, 1) := by decide +kernel
theorem dX9_leanBehind_32 : decode cX9_leanBehind 32 = .ok (.iload_n 2, 1) := by decide +kernel
theorem dX9_leanBehind_33 : decode cX9_leanBehind 33 = .ok (.iadd, 1) := by decide +kernel
theorem dX9_leanBehind_34 : decode cX9_leanBehind 34 = .ok (.iaload, 1) := by decide +kernel
theorem dX9_leanBehind_35 : decode cX9_leanBehind 35 = .ok (.goto 4, 3) := by decide +kernel
theorem dX9_leanBehind_38 : decode cX9_leanBehind 38 = .ok (.iconst 0, 1) := by decide +kernel
theorem dX9_leanBehind_39 : decode cX9_leanBehind 39 = .ok (.ireturn, 1) := by decide +kernel
theorem dX9_pulls_0 : decode cX9_pulls 0 = .ok (.aload_n 0, 1) := by decide +kernel
theorem dX9_pulls_1 : decode cX9_pulls 1 = .ok (.getfield 13, 3) := by decide +kernel
theorem dX9_pulls_4 : decode cX9_pulls 4 = .ok (.iload_n 1, 1) := by decide +kernel
theorem dX9_pulls_5 : decode cX9_pulls 5 = .ok (.iaload, 1) := by decide +kernel
theorem dX9_pulls_6 : decode cX9_pulls 6 = .ok (.istore_n 3, 1) := by decide +kernel
theorem dX9_pulls_7 : decode cX9_pulls 7 = .ok (.iload_n 3, 1) := by decide +kernel
theorem dX9_pulls_8 : decode cX9_pulls 8 = .ok (.aload_n 0, 1) := by decide +kernel
theorem dX9_pulls_9 : decode cX9_pulls 9 = .ok (.getfield 16, 3) := by decide +kernel
theorem dX9_pulls_12 : decode cX9_pulls 12 = .ok (.iconst 3, 1) := by decide +kernel
theorem dX9_pulls_13 : decode cX9_pulls 13 = .ok (.iload_n 1, 1) := by decide +kernel
theorem dX9_pulls_14 : decode cX9_pulls 14 = .ok (.imul, 1) := by decide +kernel
theorem dX9_pulls_15 : decode cX9_pulls 15 = .ok (.iload_n 2, 1) := by decide +kernel
theorem dX9_pulls_16 : decode cX9_pulls 16 = .ok (.iadd, 1) := by decide +kernel
theorem dX9_pulls_17 : decode cX9_pulls 17 = .ok (.iaload, 1) := by decide +kernel
theorem dX9_pulls_18 : decode cX9_pulls 18 = .ok (.imul, 1) := by decide +kernel
theorem dX9_pulls_19 : decode cX9_pulls 19 = .ok (.istore 4, 2) := by decide +kernel
theorem dX9_pulls_21 : decode cX9_pulls 21 = .ok (.aload_n 0, 1) := by decide +kernel
theorem dX9_pulls_22 : decode cX9_pulls 22 = .ok (.iload_n 1, 1) := by decide +kernel
theorem dX9_pulls_23 : decode cX9_pulls 23 = .ok (.iload_n 2, 1) := by decide +kernel
theorem dX9_pulls_24 : decode cX9_pulls 24 = .ok (.invokevirtual 134, 3) := by decide +kernel
theorem dX9_pulls_27 : decode cX9_pulls 27 = .ok (.aload_n 0, 1) := by decide +kernel
theorem dX9_pulls_28 : decode cX9_pulls 28 = .ok (.iload_n 1, 1) := by decide +kernel
theorem dX9_pulls_29 : decode cX9_pulls 29 = .ok (.iload_n 2, 1) := by decide +kernel
theorem dX9_pulls_30 : decode cX9_pulls 30 = .ok (.invokevirtual 137, 3) := by decide +kernel
theorem dX9_pulls_33 : decode cX9_pulls 33 = .ok (.iadd, 1) := by decide +kernel
theorem dX9_pulls_34 : decode cX9_pulls 34 = .ok (.istore 5, 2) := by decide +kernel
theorem dX9_pulls_36 : decode cX9_pulls 36 = .ok (.aload_n 0, 1) := by decide +kernel
theorem dX9_pulls_37 : decode cX9_pulls 37 = .ok (.getfield 7, 3) := by decide +kernel
theorem dX9_pulls_40 : decode cX9_pulls 40 = .ok (.iload_n 1, 1) := by decide +kernel
