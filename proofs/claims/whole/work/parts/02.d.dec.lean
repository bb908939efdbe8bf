theorem dX10_power_7 : decode cX10_power 7 = .ok (.iload_n 1, 1) := by decide +kernel
theorem dX10_power_8 : decode cX10_power 8 = .ok (.if_icmp .ge 14, 3) := by decide +kernel
theorem dX10_power_11 : decode cX10_power 11 = .ok (.lload_n 2, 1) := by decide +kernel
theorem dX10_power_12 : decode cX10_power 12 = .ok (.iload_n 0, 1) := by decide +kernel
theorem dX10_power_13 : decode cX10_power 13 = .ok (.i2l, 1) := by decide +kernel
theorem dX10_power_14 : decode cX10_power 14 = .ok (.lmul, 1) := by decide +kernel
theorem dX10_power_15 : decode cX10_power 15 = .ok (.lstore_n 2, 1) := by decide +kernel
theorem dX10_power_16 : decode cX10_power 16 = .ok (.iinc 4 1, 3) := by decide +kernel
theorem dX10_power_19 : decode cX10_power 19 = .ok (.goto (-14), 3) := by decide +kernel
theorem dX10_power_22 : decode cX10_power 22 = .ok (.lload_n 2, 1) := by decide +kernel
theorem dX10_power_23 : decode cX10_power 23 = .ok (.lreturn, 1) := by decide +kernel
theorem dX10_gust_0 : decode cX10_gust 0 = .ok (.iload_n 1, 1) := by decide +kernel
theorem dX10_gust_1 : decode cX10_gust 1 = .ok (.iconst 1, 1) := by decide +kernel
theorem dX10_gust_2 : decode cX10_gust 2 = .ok (.bipush 12, 2) := by decide +kernel
theorem dX10_gust_4 : decode cX10_gust 4 = .ok (.invokestatic 62, 3) := by decide +kernel
theorem dX10_gust_7 : decode cX10_gust 7 = .ok (.ifCond .eq 42, 3) := by decide +kernel
theorem dX10_gust_10 : decode cX10_gust 10 = .ok (.iload_n 2, 1) := by decide +kernel
theorem dX10_gust_11 : decode cX10_gust 11 = .ok (.iconst 1, 1) := by decide +kernel
theorem dX10_gust_12 : decode cX10_gust 12 = .ok (.bipush 9, 2) := by decide +kernel
theorem dX10_gust_14 : decode cX10_gust 14 = .ok (.invokestatic 62, 3) := by decide +kernel
theorem dX10_gust_17 : decode cX10_gust 17 = .ok (.ifCond .eq 32, 3) := by decide +kernel
theorem dX10_gust_20 : decode cX10_gust 20 = .ok (.iload_n 3, 1) := by decide +kernel
theorem dX10_gust_21 : decode cX10_gust 21 = .ok (.iconst 1, 1) := by decide +kernel
theorem dX10_gust_22 : decode cX10_gust 22 = .ok (.iload_n 2, 1) := by decide +kernel
theorem dX10_gust_23 : decode cX10_gust 23 = .ok (.invokestatic 62, 3) := by decide +kernel
theorem dX10_gust_26 : decode cX10_gust 26 = .ok (.ifCond .eq 23, 3) := by decide +kernel
theorem dX10_gust_29 : decode cX10_gust 29 = .ok (.iload 4, 2) := by decide +kernel
theorem dX10_gust_31 : decode cX10_gust 31 = .ok (.iconst 0, 1) := by decide +kernel
theorem dX10_gust_32 : decode cX10_gust 32 = .ok (.iconst 1, 1) := by decide +kernel
theorem dX10_gust_33 : decode cX10_gust 33 = .ok (.invokestatic 62, 3) := by decide +kernel
theorem dX10_gust_36 : decode cX10_gust 36 = .ok (.ifCond .eq 13, 3) := by decide +kernel
theorem dX10_gust_39 : decode cX10_gust 39 = .ok (.iload 5, 2) := by decide +kernel
theorem dX10_gust_41 : decode cX10_gust 41 = .ok (.iconst 0, 1) := by decide +kernel
theorem dX10_gust_42 : decode cX10_gust 42 = .ok (.iconst 1, 1) := by decide +kernel
theorem dX10_gust_43 : decode cX10_gust 43 = .ok (.invokestatic 62, 3) := by decide +kernel
theorem dX10_gust_46 : decode cX10_gust 46 = .ok (.ifCond .ne 7, 3) := by decide +kernel
theorem dX10_gust_49 : decode cX10_gust 49 = .ok (.ldc2_w 170, 3) := by decide +kernel
theorem dX10_gust_52 : decode cX10_gust 52 = .ok (.lreturn, 1) := by decide +kernel
theorem dX10_gust_53 : decode cX10_gust 53 = .ok (.iload_n 2, 1) := by decide +kernel
theorem dX10_gust_54 : decode cX10_gust 54 = .ok (.iload_n 1, 1) := by decide +kernel
theorem dX10_gust_55 : decode cX10_gust 55 = .ok (.invokestatic 172, 3) := by decide +kernel
theorem dX10_gust_58 : decode cX10_gust 58 = .ok (.lstore 6, 2) := by decide +kernel
theorem dX10_gust_60 : decode cX10_gust 60 = .ok (.iload_n 3, 1) := by decide +kernel
theorem dX10_gust_61 : decode cX10_gust 61 = .ok (.iload_n 1, 1) := by decide +kernel
theorem dX10_gust_62 : decode cX10_gust 62 = .ok (.invokestatic 172, 3) := by decide +kernel
theorem dX10_gust_65 : decode cX10_gust 65 = .ok (.iload_n 3, 1) := by decide +kernel
theorem dX10_gust_66 : decode cX10_gust 66 = .ok (.iconst 1, 1) := by decide +kernel
theorem dX10_gust_67 : decode cX10_gust 67 = .ok (.isub, 1) := by decide +kernel
theorem dX10_gust_68 : decode cX10_gust 68 = .ok (.iload_n 1, 1) := by decide +kernel
theorem dX10_gust_69 : decode cX10_gust 69 = .ok (.invokestatic 172, 3) := by decide +kernel
theorem dX10_gust_72 : decode cX10_gust 72 = .ok (.lsub, 1) := by decide +kernel
theorem dX10_gust_73 : decode cX10_gust 73 = .ok (.lstore 8, 2) := by decide +kernel
theorem dX10_gust_75 : decode cX10_gust 75 = .ok (.iload 4, 2) := by decide +kernel
theorem dX10_gust_77 : decode cX10_gust 77 = .ok (.iconst 1, 1) := by decide +kernel
theorem dX10_gust_78 : decode cX10_gust 78 = .ok (.if_icmp .ne 45, 3) := by decide +kernel
theorem dX10_gust_81 : decode cX10_gust 81 = .ok (.lconst 0, 1) := by decide +kernel
theorem dX10_gust_82 : decode cX10_gust 82 = .ok (.lstore 8, 2) := by decide +kernel
theorem dX10_gust_84 : decode cX10_gust 84 = .ok (.iconst 1, 1) := by decide +kernel
theorem dX10_gust_85 : decode cX10_gust 85 = .ok (.istore 10, 2) := by decide +kernel
theorem dX10_gust_87 : decode cX10_gust 87 = .ok (.iload 10, 2) := by decide +kernel
theorem dX10_gust_89 : decode cX10_gust 89 = .ok (.iload_n 2, 1) := by decide +kernel
theorem dX10_gust_90 : decode cX10_gust 90 = .ok (.if_icmp .gt 33, 3) := by decide +kernel
theorem dX10_gust_93 : decode cX10_gust 93 = .ok (.lload 8, 2) := by decide +kernel
theorem dX10_gust_95 : decode cX10_gust 95 = .ok (.iload 10, 2) := by decide +kernel
theorem dX10_gust_97 : decode cX10_gust 97 = .ok (.i2l, 1) := by decide +kernel
theorem dX10_gust_98 : decode cX10_gust 98 = .ok (.iload 10, 2) := by decide +kernel
theorem dX10_gust_100 : decode cX10_gust 100 = .ok (.iload_n 1, 1) := by decide +kernel
theorem dX10_gust_101 : decode cX10_gust 101 = .ok (.invokestatic 172, 3) := by decide +kernel
theorem dX10_gust_104 : decode cX10_gust 104 = .ok (.iload 10, 2) := by decide +kernel
theorem dX10_gust_106 : decode cX10_gust 106 = .ok (.iconst 1, 1) := by decide +kernel
theorem dX10_gust_107 : decode cX10_gust 107 = .ok (.isub, 1) := by decide +kernel
theorem dX10_gust_108 : decode cX10_gust 108 = .ok (.iload_n 1, 1) := by decide +kernel
theorem dX10_gust_109 : decode cX10_gust 109 = .ok (.invokestatic 172, 3) := by decide +kernel
theorem dX10_gust_112 : decode cX10_gust 112 = .ok (.lsub, 1) := by decide +kernel
theorem dX10_gust_113 : decode cX10_gust 113 = .ok (.lmul, 1) := by decide +kernel
theorem dX10_gust_114 : decode cX10_gust 114 = .ok (.ladd, 1) := by decide +kernel
theorem dX10_gust_115 : decode cX10_gust 115 = .ok (.lstore 8, 2) := by decide +kernel
theorem dX10_gust_117 : decode cX10_gust 117 = .ok (.iinc 10 1, 3) := by decide +kernel
theorem dX10_gust_120 : decode cX10_gust 120 = .ok (.goto (-33), 3) := by decide +kernel
theorem dX10_gust_123 : decode cX10_gust 123 = .ok (.lload 8, 2) := by decide +kernel
theorem dX10_gust_125 : decode cX10_gust 125 = .ok (.lstore 10, 2) := by decide +kernel
theorem dX10_gust_127 : decode cX10_gust 127 = .ok (.lload 6, 2) := by decide +kernel
theorem dX10_gust_129 : decode cX10_gust 129 = .ok (.lstore 12, 2) := by decide +kernel
theorem dX10_gust_131 : decode cX10_gust 131 = .ok (.lload 12, 2) := by decide +kernel
theorem dX10_gust_133 : decode cX10_gust 133 = .ok (.lconst 0, 1) := by decide +kernel
theorem dX10_gust_134 : decode cX10_gust 134 = .ok (.lcmp, 1) := by decide +kernel
theorem dX10_gust_135 : decode cX10_gust 135 = .ok (.ifCond .eq 21, 3) := by decide +kernel
theorem dX10_gust_138 : decode cX10_gust 138 = .ok (.lload 10, 2) := by decide +kernel
theorem dX10_gust_140 : decode cX10_gust 140 = .ok (.lload 12, 2) := by decide +kernel
theorem dX10_gust_142 : decode cX10_gust 142 = .ok (.lrem, 1) := by decide +kernel
theorem dX10_gust_143 : decode cX10_gust 143 = .ok (.lstore 14, 2) := by decide +kernel
theorem dX10_gust_145 : decode cX10_gust 145 = .ok (.lload 12, 2) := by decide +kernel
theorem dX10_gust_147 : decode cX10_gust 147 = .ok (.lstore 10, 2) := by decide +kernel
theorem dX10_gust_149 : decode cX10_gust 149 = .ok (.lload 14, 2) := by decide +kernel
theorem dX10_gust_151 : decode cX10_gust 151 = .ok (.lstore 12, 2) := by decide +kernel
theorem dX10_gust_153 : decode cX10_gust 153 = .ok (.goto (-22), 3) := by decide +kernel
theorem dX10_gust_156 : decode cX10_gust 156 = .ok (.iload 5, 2) := by decide +kernel
theorem dX10_gust_158 : decode cX10_gust 158 = .ok (.ifCond .ne 11, 3) := by decide +kernel
theorem dX10_gust_161 : decode cX10_gust 161 = .ok (.lload 8, 2) := by decide +kernel
theorem dX10_gust_163 : decode cX10_gust 163 = .ok (.lload 10, 2) := by decide +kernel
theorem dX10_gust_165 : decode cX10_gust 165 = .ok (.ldiv, 1) := by decide +kernel
theorem dX10_gust_166 : decode cX10_gust 166 = .ok (.goto 8, 3) := by decide +kernel
theorem dX10_gust_169 : decode cX10_gust 169 = .ok (.lload 6, 2) := by decide +kernel
theorem dX10_gust_171 : decode cX10_gust 171 = .ok (.lload 10, 2) := by decide +kernel
theorem dX10_gust_173 : decode cX10_gust 173 = .ok (.ldiv, 1) := by decide +kernel
theorem dX10_gust_174 : decode cX10_gust 174 = .ok (.lreturn, 1) := by decide +kernel
theorem dX10_year_0 : decode cX10_year 0 = .ok (.iload_n 1, 1) := by decide +kernel
theorem dX10_year_1 : decode cX10_year 1 = .ok (.iconst 0, 1) := by decide +kernel
theorem dX10_year_2 : decode cX10_year 2 = .ok (.sipush 9999, 3) := by decide +kernel
theorem dX10_year_5 : decode cX10_year 5 = .ok (.invokestatic 62, 3) := by decide +kernel
theorem dX10_year_8 : decode cX10_year 8 = .ok (.ifCond .eq 22, 3) := by decide +kernel
theorem dX10_year_11 : decode cX10_year 11 = .ok (.iload_n 2, 1) := by decide +kernel
theorem dX10_year_12 : decode cX10_year 12 = .ok (.iconst 1, 1) := by decide +kernel
theorem dX10_year_13 : decode cX10_year 13 = .ok (.bipush 99, 2) := by decide +kernel
theorem dX10_year_15 : decode cX10_year 15 = .ok (.invokestatic 62, 3) := by decide +kernel
theorem dX10_year_18 : decode cX10_year 18 = .ok (.ifCond .eq 12, 3) := by decide +kernel
theorem dX10_year_21 : decode cX10_year 21 = .ok (.iload_n 3, 1) := by decide +kernel
theorem dX10_year_22 : decode cX10_year 22 = .ok (.iconst 0, 1) := by decide +kernel
theorem dX10_year_23 : decode cX10_year 23 = .ok (.iconst 2, 1) := by decide +kernel
theorem dX10_year_24 : decode cX10_year 24 = .ok (.invokestatic 62, 3) := by decide +kernel
theorem dX10_year_27 : decode cX10_year 27 = .ok (.ifCond .ne 6, 3) := by decide +kernel
theorem dX10_year_30 : decode cX10_year 30 = .ok (.bipush (-2), 2) := by decide +kernel
theorem dX10_year_32 : decode cX10_year 32 = .ok (.ireturn, 1) := by decide +kernel
theorem dX10_year_33 : decode cX10_year 33 = .ok (.aload_n 0, 1) := by decide +kernel
theorem dX10_year_34 : decode cX10_year 34 = .ok (.invokevirtual 70, 3) := by decide +kernel
theorem dX10_year_37 : decode cX10_year 37 = .ok (.iload_n 1, 1) := by decide +kernel
theorem dX10_year_38 : decode cX10_year 38 = .ok (.istore 4, 2) := by decide +kernel
theorem dX10_year_40 : decode cX10_year 40 = .ok (.iconst 0, 1) := by decide +kernel
theorem dX10_year_41 : decode cX10_year 41 = .ok (.istore 5, 2) := by decide +kernel
theorem dX10_year_43 : decode cX10_year 43 = .ok (.iload 5, 2) := by decide +kernel
theorem dX10_year_45 : decode cX10_year 45 = .ok (.iload_n 2, 1) := by decide +kernel
theorem dX10_year_46 : decode cX10_year 46 = .ok (.if_icmp .ge 140, 3) := by decide +kernel
theorem dX10_year_49 : decode cX10_year 49 = .ok (.bipush 75, 2) := by decide +kernel
theorem dX10_year_51 : decode cX10_year 51 = .ok (.iload 4, 2) := by decide +kernel
theorem dX10_year_53 : decode cX10_year 53 = .ok (.imul, 1) := by decide +kernel
theorem dX10_year_54 : decode cX10_year 54 = .ok (.bipush 74, 2) := by decide +kernel
theorem dX10_year_56 : decode cX10_year 56 = .ok (.iadd, 1) := by decide +kernel
theorem dX10_year_57 : decode cX10_year 57 = .ok (.ldc 176, 2) := by decide +kernel
theorem dX10_year_59 : decode cX10_year 59 = .ok (.irem, 1) := by decide +kernel
theorem dX10_year_60 : decode cX10_year 60 = .ok (.istore 4, 2) := by decide +kernel
theorem dX10_year_62 : decode cX10_year 62 = .ok (.iload 4, 2) := by decide +kernel
theorem dX10_year_64 : decode cX10_year 64 = .ok (.bipush 7, 2) := by decide +kernel
theorem dX10_year_66 : decode cX10_year 66 = .ok (.irem, 1) := by decide +kernel
theorem dX10_year_67 : decode cX10_year 67 = .ok (.istore 6, 2) := by decide +kernel
theorem dX10_year_69 : decode cX10_year 69 = .ok (.iload 4, 2) := by decide +kernel
theorem dX10_year_71 : decode cX10_year 71 = .ok (.bipush 7, 2) := by decide +kernel
theorem dX10_year_73 : decode cX10_year 73 = .ok (.idiv, 1) := by decide +kernel
theorem dX10_year_74 : decode cX10_year 74 = .ok (.bipush 8, 2) := by decide +kernel
theorem dX10_year_76 : decode cX10_year 76 = .ok (.irem, 1) := by decide +kernel
theorem dX10_year_77 : decode cX10_year 77 = .ok (.istore 7, 2) := by decide +kernel
theorem dX10_year_79 : decode cX10_year 79 = .ok (.iload 4, 2) := by decide +kernel
theorem dX10_year_81 : decode cX10_year 81 = .ok (.bipush 56, 2) := by decide +kernel
theorem dX10_year_83 : decode cX10_year 83 = .ok (.idiv, 1) := by decide +kernel
theorem dX10_year_84 : decode cX10_year 84 = .ok (.istore 8, 2) := by decide +kernel
theorem dX10_year_86 : decode cX10_year 86 = .ok (.iload 7, 2) := by decide +kernel
theorem dX10_year_88 : decode cX10_year 88 = .ok (.iconst 3, 1) := by decide +kernel
theorem dX10_year_89 : decode cX10_year 89 = .ok (.if_icmp .ge 21, 3) := by decide +kernel
theorem dX10_year_92 : decode cX10_year 92 = .ok (.aload_n 0, 1) := by decide +kernel
theorem dX10_year_93 : decode cX10_year 93 = .ok (.aload_n 0, 1) := by decide +kernel
theorem dX10_year_94 : decode cX10_year 94 = .ok (.iload 6, 2) := by decide +kernel
theorem dX10_year_96 : decode cX10_year 96 = .ok (.iload 8, 2) := by decide +kernel
theorem dX10_year_98 : decode cX10_year 98 = .ok (.bipush 7, 2) := by decide +kernel
theorem dX10_year_100 : decode cX10_year 100 = .ok (.irem, 1) := by decide +kernel
theorem dX10_year_101 : decode cX10_year 101 = .ok (.invokevirtual 114, 3) := by decide +kernel
theorem dX10_year_104 : decode cX10_year 104 = .ok (.putfield 126, 3) := by decide +kernel
theorem dX10_year_107 : decode cX10_year 107 = .ok (.goto 73, 3) := by decide +kernel
theorem dX10_year_110 : decode cX10_year 110 = .ok (.iload 7, 2) := by decide +kernel
theorem dX10_year_112 : decode cX10_year 112 = .ok (.iconst 3, 1) := by decide +kernel
theorem dX10_year_113 : decode cX10_year 113 = .ok (.if_icmp .ne 16, 3) := by decide +kernel
theorem dX10_year_116 : decode cX10_year 116 = .ok (.aload_n 0, 1) := by decide +kernel
theorem dX10_year_117 : decode cX10_year 117 = .ok (.aload_n 0, 1) := by decide +kernel
theorem dX10_year_118 : decode cX10_year 118 = .ok (.iload 6, 2) := by decide +kernel
theorem dX10_year_120 : decode cX10_year 120 = .ok (.invokevirtual 108, 3) := by decide +kernel
theorem dX10_year_123 : decode cX10_year 123 = .ok (.putfield 126, 3) := by decide +kernel
theorem dX10_year_126 : decode cX10_year 126 = .ok (.goto 54, 3) := by decide +kernel
theorem dX10_year_129 : decode cX10_year 129 = .ok (.iload 7, 2) := by decide +kernel
theorem dX10_year_131 : decode cX10_year 131 = .ok (.iconst 4, 1) := by decide +kernel
theorem dX10_year_132 : decode cX10_year 132 = .ok (.if_icmp .ne 21, 3) := by decide +kernel
theorem dX10_year_135 : decode cX10_year 135 = .ok (.aload_n 0, 1) := by decide +kernel
theorem dX10_year_136 : decode cX10_year 136 = .ok (.aload_n 0, 1) := by decide +kernel
theorem dX10_year_137 : decode cX10_year 137 = .ok (.iload 6, 2) := by decide +kernel
theorem dX10_year_139 : decode cX10_year 139 = .ok (.iload 8, 2) := by decide +kernel
theorem dX10_year_141 : decode cX10_year 141 = .ok (.bipush 7, 2) := by decide +kernel
theorem dX10_year_143 : decode cX10_year 143 = .ok (.irem, 1) := by decide +kernel
theorem dX10_year_144 : decode cX10_year 144 = .ok (.invokevirtual 111, 3) := by decide +kernel
theorem dX10_year_147 : decode cX10_year 147 = .ok (.putfield 126, 3) := by decide +kernel
theorem dX10_year_150 : decode cX10_year 150 = .ok (.goto 30, 3) := by decide +kernel
theorem dX10_year_153 : decode cX10_year 153 = .ok (.aload_n 0, 1) := by decide +kernel
theorem dX10_year_154 : decode cX10_year 154 = .ok (.iload 7, 2) := by decide +kernel
theorem dX10_year_156 : decode cX10_year 156 = .ok (.iconst 5, 1) := by decide +kernel
theorem dX10_year_157 : decode cX10_year 157 = .ok (.if_icmp .ne 16, 3) := by decide +kernel
theorem dX10_year_160 : decode cX10_year 160 = .ok (.aload_n 0, 1) := by decide +kernel
theorem dX10_year_161 : decode cX10_year 161 = .ok (.iconst 1, 1) := by decide +kernel
theorem dX10_year_162 : decode cX10_year 162 = .ok (.iload 8, 2) := by decide +kernel
theorem dX10_year_164 : decode cX10_year 164 = .ok (.iconst 3, 1) := by decide +kernel
theorem dX10_year_165 : decode cX10_year 165 = .ok (.irem, 1) := by decide +kernel
theorem dX10_year_166 : decode cX10_year 166 = .ok (.iadd, 1) := by decide +kernel
theorem dX10_year_167 : decode cX10_year 167 = .ok (.invokevirtual 105, 3) := by decide +kernel
theorem dX10_year_170 : decode cX10_year 170 = .ok (.goto 7, 3) := by decide +kernel
theorem dX10_year_173 : decode cX10_year 173 = .ok (.aload_n 0, 1) := by decide +kernel
theorem dX10_year_174 : decode cX10_year 174 = .ok (.invokevirtual 120, 3) := by decide +kernel
theorem dX10_year_177 : decode cX10_year 177 = .ok (.putfield 126, 3) := by decide +kernel
theorem dX10_year_180 : decode cX10_year 180 = .ok (.iinc 5 1, 3) := by decide +kernel
theorem dX10_year_183 : decode cX10_year 183 = .ok (.goto (-140), 3) := by decide +kernel
theorem dX10_year_186 : decode cX10_year 186 = .ok (.iconst 0, 1) := by decide +kernel
theorem dX10_year_187 : decode cX10_year 187 = .ok (.istore 5, 2) := by decide +kernel
theorem dX10_year_189 : decode cX10_year 189 = .ok (.iconst 0, 1) := by decide +kernel
theorem dX10_year_190 : decode cX10_year 190 = .ok (.istore 6, 2) := by decide +kernel
theorem dX10_year_192 : decode cX10_year 192 = .ok (.iload 6, 2) := by decide +kernel
theorem dX10_year_194 : decode cX10_year 194 = .ok (.bipush 7, 2) := by decide +kernel
theorem dX10_year_196 : decode cX10_year 196 = .ok (.if_icmp .ge 23, 3) := by decide +kernel
theorem dX10_year_199 : decode cX10_year 199 = .ok (.iload 5, 2) := by decide +kernel
theorem dX10_year_201 : decode cX10_year 201 = .ok (.aload_n 0, 1) := by decide +kernel
theorem dX10_year_202 : decode cX10_year 202 = .ok (.invokevirtual 135, 3) := by decide +kernel
theorem dX10_year_205 : decode cX10_year 205 = .ok (.iload 6, 2) := by decide +kernel
theorem dX10_year_207 : decode cX10_year 207 = .ok (.ishr, 1) := by decide +kernel
theorem dX10_year_208 : decode cX10_year 208 = .ok (.iconst 1, 1) := by decide +kernel
theorem dX10_year_209 : decode cX10_year 209 = .ok (.iand, 1) := by decide +kernel
theorem dX10_year_210 : decode cX10_year 210 = .ok (.iadd, 1) := by decide +kernel
theorem dX10_year_211 : decode cX10_year 211 = .ok (.istore 5, 2) := by decide +kernel
theorem dX10_year_213 : decode cX10_year 213 = .ok (.iinc 6 1, 3) := by decide +kernel
theorem dX10_year_216 : decode cX10_year 216 = .ok (.goto (-24), 3) := by decide +kernel
theorem dX10_year_219 : decode cX10_year 219 = .ok (.iload_n 3, 1) := by decide +kernel
theorem dX10_year_220 : decode cX10_year 220 = .ok (.ifCond .ne 11, 3) := by decide +kernel
theorem dX10_year_223 : decode cX10_year 223 = .ok (.aload_n 0, 1) := by decide +kernel
theorem dX10_year_224 : decode cX10_year 224 = .ok (.iconst 0, 1) := by decide +kernel
theorem dX10_year_225 : decode cX10_year 225 = .ok (.invokevirtual 73, 3) := by decide +kernel
theorem dX10_year_228 : decode cX10_year 228 = .ok (.goto 20, 3) := by decide +kernel
theorem dX10_year_231 : decode cX10_year 231 = .ok (.iload_n 3, 1) := by decide +kernel
theorem dX10_year_232 : decode cX10_year 232 = .ok (.iconst 1, 1) := by decide +kernel
theorem dX10_year_233 : decode cX10_year 233 = .ok (.if_icmp .ne 8, 3) := by decide +kernel
theorem dX10_year_236 : decode cX10_year 236 = .ok (.iload 5, 2) := by decide +kernel
theorem dX10_year_238 : decode cX10_year 238 = .ok (.goto 10, 3) := by decide +kernel
theorem dX10_year_241 : decode cX10_year 241 = .ok (.aload_n 0, 1) := by decide +kernel
theorem dX10_year_242 : decode cX10_year 242 = .ok (.getfield 13, 3) := by decide +kernel
theorem dX10_year_245 : decode cX10_year 245 = .ok (.bipush 56, 2) := by decide +kernel
theorem dX10_year_247 : decode cX10_year 247 = .ok (.iaload, 1) := by decide +kernel
theorem dX10_year_248 : decode cX10_year 248 = .ok (.ireturn, 1) := by decide +kernel
theorem dX10_image_0 : decode cX10_image 0 = .ok (.iload_n 1, 1) := by decide +kernel
theorem dX10_image_1 : decode cX10_image 1 = .ok (.iconst 0, 1) := by decide +kernel
theorem dX10_image_2 : decode cX10_image 2 = .ok (.iconst 1, 1) := by decide +kernel
theorem dX10_image_3 : decode cX10_image 3 = .ok (.invokestatic 62, 3) := by decide +kernel
theorem dX10_image_6 : decode cX10_image 6 = .ok (.ifCond .ne 6, 3) := by decide +kernel
theorem dX10_image_9 : decode cX10_image 9 = .ok (.bipush (-2), 2) := by decide +kernel
theorem dX10_image_11 : decode cX10_image 11 = .ok (.ireturn, 1) := by decide +kernel
theorem dX10_image_12 : decode cX10_image 12 = .ok (.sipush 180, 3) := by decide +kernel
theorem dX10_image_15 : decode cX10_image 15 = .ok (.iload_n 1, 1) := by decide +kernel
theorem dX10_image_16 : decode cX10_image 16 = .ok (.imul, 1) := by decide +kernel
theorem dX10_image_17 : decode cX10_image 17 = .ok (.istore_n 2, 1) := by decide +kernel
theorem dX10_image_18 : decode cX10_image 18 = .ok (.iconst 0, 1) := by decide +kernel
theorem dX10_image_19 : decode cX10_image 19 = .ok (.istore_n 3, 1) := by decide +kernel
theorem dX10_image_20 : decode cX10_image 20 = .ok (.iload_n 3, 1) := by decide +kernel
theorem dX10_image_21 : decode cX10_image 21 = .ok (.bipush 64, 2) := by decide +kernel
theorem dX10_image_23 : decode cX10_image 23 = .ok (.if_icmp .ge 23, 3) := by decide +kernel
theorem dX10_image_26 : decode cX10_image 26 = .ok (.aload_n 0, 1) := by decide +kernel
theorem dX10_image_27 : decode cX10_image 27 = .ok (.getfield 56, 3) := by decide +kernel
theorem dX10_image_30 : decode cX10_image 30 = .ok (.iload_n 2, 1) := by decide +kernel
theorem dX10_image_31 : decode cX10_image 31 = .ok (.iload_n 3, 1) := by decide +kernel
theorem dX10_image_32 : decode cX10_image 32 = .ok (.iadd, 1) := by decide +kernel
theorem dX10_image_33 : decode cX10_image 33 = .ok (.aload_n 0, 1) := by decide +kernel
theorem dX10_image_34 : decode cX10_image 34 = .ok (.getfield 7, 3) := by decide +kernel
theorem dX10_image_37 : decode cX10_image 37 = .ok (.iload_n 3, 1) := by decide +kernel
theorem dX10_image_38 : decode cX10_image 38 = .ok (.iaload, 1) := by decide +kernel
theorem dX10_image_39 : decode cX10_image 39 = .ok (.iastore, 1) := by decide +kernel
theorem dX10_image_40 : decode cX10_image 40 = .ok (.iinc 3 1, 3) := by decide +kernel
theorem dX10_image_43 : decode cX10_image 43 = .ok (.goto (-23), 3) := by decide +kernel
theorem dX10_image_46 : decode cX10_image 46 = .ok (.iconst 0, 1) := by decide +kernel
theorem dX10_image_47 : decode cX10_image 47 = .ok (.istore_n 3, 1) := by decide +kernel
theorem dX10_image_48 : decode cX10_image 48 = .ok (.iload_n 3, 1) := by decide +kernel
theorem dX10_image_49 : decode cX10_image 49 = .ok (.bipush 49, 2) := by decide +kernel
theorem dX10_image_51 : decode cX10_image 51 = .ok (.if_icmp .ge 26, 3) := by decide +kernel
theorem dX10_image_54 : decode cX10_image 54 = .ok (.aload_n 0, 1) := by decide +kernel
theorem dX10_image_55 : decode cX10_image 55 = .ok (.getfield 56, 3) := by decide +kernel
theorem dX10_image_58 : decode cX10_image 58 = .ok (.iload_n 2, 1) := by decide +kernel
theorem dX10_image_59 : decode cX10_image 59 = .ok (.bipush 64, 2) := by decide +kernel
theorem dX10_image_61 : decode cX10_image 61 = .ok (.iadd, 1) := by decide +kernel
theorem dX10_image_62 : decode cX10_image 62 = .ok (.iload_n 3, 1) := by decide +kernel
theorem dX10_image_63 : decode cX10_image 63 = .ok (.iadd, 1) := by decide +kernel
theorem dX10_image_64 : decode cX10_image 64 = .ok (.aload_n 0, 1) := by decide +kernel
theorem dX10_image_65 : decode cX10_image 65 = .ok (.getfield 16, 3) := by decide +kernel
theorem dX10_image_68 : decode cX10_image 68 = .ok (.iload_n 3, 1) := by decide +kernel
theorem dX10_image_69 : decode cX10_image 69 = .ok (.iaload, 1) := by decide +kernel
theorem dX10_image_70 : decode cX10_image 70 = .ok (.iastore, 1) := by decide +kernel
theorem dX10_image_71 : decode cX10_image 71 = .ok (.iinc 3 1, 3) := by decide +kernel
theorem dX10_image_74 : decode cX10_image 74 = .ok (.goto (-26), 3) := by decide +kernel
theorem dX10_image_77 : decode cX10_image 77 = .ok (.iconst 0, 1) := by decide +kernel
theorem dX10_image_78 : decode cX10_image 78 = .ok (.istore_n 3, 1) := by decide +kernel
theorem dX10_image_79 : decode cX10_image 79 = .ok (.iload_n 3, 1) := by decide +kernel
theorem dX10_image_80 : decode cX10_image 80 = .ok (.bipush 32, 2) := by decide +kernel
theorem dX10_image_82 : decode cX10_image 82 = .ok (.if_icmp .ge 26, 3) := by decide +kernel
theorem dX10_image_85 : decode cX10_image 85 = .ok (.aload_n 0, 1) := by decide +kernel
theorem dX10_image_86 : decode cX10_image 86 = .ok (.getfield 56, 3) := by decide +kernel
theorem dX10_image_89 : decode cX10_image 89 = .ok (.iload_n 2, 1) := by decide +kernel
theorem dX10_image_90 : decode cX10_image 90 = .ok (.bipush 113, 2) := by decide +kernel
theorem dX10_image_92 : decode cX10_image 92 = .ok (.iadd, 1) := by decide +kernel
theorem dX10_image_93 : decode cX10_image 93 = .ok (.iload_n 3, 1) := by decide +kernel
theorem dX10_image_94 : decode cX10_image 94 = .ok (.iadd, 1) := by decide +kernel
theorem dX10_image_95 : decode cX10_image 95 = .ok (.aload_n 0, 1) := by decide +kernel
theorem dX10_image_96 : decode cX10_image 96 = .ok (.getfield 19, 3) := by decide +kernel
theorem dX10_image_99 : decode cX10_image 99 = .ok (.iload_n 3, 1) := by decide +kernel
theorem dX10_image_100 : decode cX10_image 100 = .ok (.iaload, 1) := by decide +kernel
theorem dX10_image_101 : decode cX10_image 101 = .ok (.iastore, 1) := by decide +kernel
theorem dX10_image_102 : decode cX10_image 102 = .ok (.iinc 3 1, 3) := by decide +kernel
theorem dX10_image_105 : decode cX10_image 105 = .ok (.goto (-26), 3) := by decide +kernel
theorem dX10_image_108 : decode cX10_image 108 = .ok (.iconst 0, 1) := by decide +kernel
theorem dX10_image_109 : decode cX10_image 109 = .ok (.istore_n 3, 1) := by decide +kernel
theorem dX10_image_110 : decode cX10_image 110 = .ok (.iload_n 3, 1) := by decide +kernel
theorem dX10_image_111 : decode cX10_image 111 = .ok (.bipush 24, 2) := by decide +kernel
theorem dX10_image_113 : decode cX10_image 113 = .ok (.if_icmp .ge 27, 3) := by decide +kernel
theorem dX10_image_116 : decode cX10_image 116 = .ok (.aload_n 0, 1) := by decide +kernel
theorem dX10_image_117 : decode cX10_image 117 = .ok (.getfield 56, 3) := by decide +kernel
theorem dX10_image_120 : decode cX10_image 120 = .ok (.iload_n 2, 1) := by decide +kernel
theorem dX10_image_121 : decode cX10_image 121 = .ok (.sipush 145, 3) := by decide +kernel
theorem dX10_image_124 : decode cX10_image 124 = .ok (.iadd, 1) := by decide +kernel
theorem dX10_image_125 : decode cX10_image 125 = .ok (.iload_n 3, 1) := by decide +kernel
theorem dX10_image_126 : decode cX10_image 126 = .ok (.iadd, 1) := by decide +kernel
theorem dX10_image_127 : decode cX10_image 127 = .ok (.aload_n 0, 1) := by decide +kernel
theorem dX10_image_128 : decode cX10_image 128 = .ok (.getfield 22, 3) := by decide +kernel
theorem dX10_image_131 : decode cX10_image 131 = .ok (.iload_n 3, 1) := by decide +kernel
theorem dX10_image_132 : decode cX10_image 132 = .ok (.iaload, 1) := by decide +kernel
theorem dX10_image_133 : decode cX10_image 133 = .ok (.iastore, 1) := by decide +kernel
theorem dX10_image_134 : decode cX10_image 134 = .ok (.iinc 3 1, 3) := by decide +kernel
theorem dX10_image_137 : decode cX10_image 137 = .ok (.goto (-27), 3) := by decide +kernel
theorem dX10_image_140 : decode cX10_image 140 = .ok (.aload_n 0, 1) := by decide +kernel
theorem dX10_image_141 : decode cX10_image 141 = .ok (.getfield 56, 3) := by decide +kernel
theorem dX10_image_144 : decode cX10_image 144 = .ok (.iload_n 2, 1) := by decide +kernel
theorem dX10_image_145 : decode cX10_image 145 = .ok (.sipush 170, 3) := by decide +kernel
theorem dX10_image_148 : decode cX10_image 148 = .ok (.iadd, 1) := by decide +kernel
theorem dX10_image_149 : decode cX10_image 149 = .ok (.aload_n 0, 1) := by decide +kernel
theorem dX10_image_150 : decode cX10_image 150 = .ok (.getfield 157, 3) := by decide +kernel
theorem dX10_image_153 : decode cX10_image 153 = .ok (.iastore, 1) := by decide +kernel
theorem dX10_image_154 : decode cX10_image 154 = .ok (.aload_n 0, 1) := by decide +kernel
theorem dX10_image_155 : decode cX10_image 155 = .ok (.getfield 59, 3) := by decide +kernel
theorem dX10_image_158 : decode cX10_image 158 = .ok (.iload_n 1, 1) := by decide +kernel
theorem dX10_image_159 : decode cX10_image 159 = .ok (.iconst 1, 1) := by decide +kernel
theorem dX10_image_160 : decode cX10_image 160 = .ok (.bastore, 1) := by decide +kernel
theorem dX10_image_161 : decode cX10_image 161 = .ok (.iconst 1, 1) := by decide +kernel
theorem dX10_image_162 : decode cX10_image 162 = .ok (.ireturn, 1) := by decide +kernel
theorem dX10_restore_0 : decode cX10_restore 0 = .ok (.iload_n 1, 1) := by decide +kernel
theorem dX10_restore_1 : decode cX10_restore 1 = .ok (.iconst 0, 1) := by decide +kernel
theorem dX10_restore_2 : decode cX10_restore 2 = .ok (.iconst 1, 1) := by decide +kernel
theorem dX10_restore_3 : decode cX10_restore 3 = .ok (.invokestatic 62, 3) := by decide +kernel
theorem dX10_restore_6 : decode cX10_restore 6 = .ok (.ifCond .ne 6, 3) := by decide +kernel
theorem dX10_restore_9 : decode cX10_restore 9 = .ok (.bipush (-2), 2) := by decide +kernel
theorem dX10_restore_11 : decode cX10_restore 11 = .ok (.ireturn, 1) := by decide +kernel
theorem dX10_restore_12 : decode cX10_restore 12 = .ok (.aload_n 0, 1) := by decide +kernel
theorem dX10_restore_13 : decode cX10_restore 13 = .ok (.getfield 59, 3) := by decide +kernel
theorem dX10_restore_16 : decode cX10_restore 16 = .ok (.iload_n 1, 1) := by decide +kernel
theorem dX10_restore_17 : decode cX10_restore 17 = .ok (.baload, 1) := by decide +kernel
theorem dX10_restore_18 : decode cX10_restore 18 = .ok (.ifCond .ne 6, 3) := by decide +kernel
theorem dX10_restore_21 : decode cX10_restore 21 = .ok (.bipush (-3), 2) := by decide +kernel
theorem dX10_restore_23 : decode cX10_restore 23 = .ok (.ireturn, 1) := by decide +kernel
theorem dX10_restore_24 : decode cX10_restore 24 = .ok (.sipush 180, 3) := by decide +kernel
theorem dX10_restore_27 : decode cX10_restore 27 = .ok (.iload_n 1, 1) := by decide +kernel
theorem dX10_restore_28 : decode cX10_restore 28 = .ok (.imul, 1) := by decide +kernel
theorem dX10_restore_29 : decode cX10_restore 29 = .ok (.istore_n 2, 1) := by decide +kernel
theorem dX10_restore_30 : decode cX10_restore 30 = .ok (.iconst 0, 1) := by decide +kernel
theorem dX10_restore_31 : decode cX10_restore 31 = .ok (.istore_n 3, 1) := by decide +kernel
theorem dX10_restore_32 : decode cX10_restore 32 = .ok (.iload_n 3, 1) := by decide +kernel
theorem dX10_restore_33 : decode cX10_restore 33 = .ok (.bipush 64, 2) := by decide +kernel
theorem dX10_restore_35 : decode cX10_restore 35 = .ok (.if_icmp .ge 23, 3) := by decide +kernel
theorem dX10_restore_38 : decode cX10_restore 38 = .ok (.aload_n 0, 1) := by decide +kernel
theorem dX10_restore_39 : decode cX10_restore 39 = .ok (.getfield 7, 3) := by decide +kernel
theorem dX10_restore_42 : decode cX10_restore 42 = .ok (.iload_n 3, 1) := by decide +kernel
theorem dX10_restore_43 : decode cX10_restore 43 = .ok (.aload_n 0, 1) := by decide +kernel
theorem dX10_restore_44 : decode cX10_restore 44 = .ok (.getfield 56, 3) := by decide +kernel
theorem dX10_restore_47 : decode cX10_restore 47 = .ok (.iload_n 2, 1) := by decide +kernel
theorem dX10_restore_48 : decode cX10_restore 48 = .ok (.iload_n 3, 1) := by decide +kernel
theorem dX10_restore_49 : decode cX10_restore 49 = .ok (.iadd, 1) := by decide +kernel
theorem dX10_restore_50 : decode cX10_restore 50 = .ok (.iaload, 1) := by decide +kernel
theorem dX10_restore_51 : decode cX10_restore 51 = .ok (.iastore, 1) := by decide +kernel
theorem dX10_restore_52 : decode cX10_restore 52 = .ok (.iinc 3 1, 3) := by decide +kernel
theorem dX10_restore_55 : decode cX10_restore 55 = .ok (.goto (-23), 3) := by decide +kernel
theorem dX10_restore_58 : decode cX10_restore 58 = .ok (.iconst 0, 1) := by decide +kernel
theorem dX10_restore_59 : decode cX10_restore 59 = .ok (.istore_n 3, 1) := by decide +kernel
theorem dX10_restore_60 : decode cX10_restore 60 = .ok (.iload_n 3, 1) := by decide +kernel
theorem dX10_restore_61 : decode cX10_restore 61 = .ok (.bipush 49, 2) := by decide +kernel
theorem dX10_restore_63 : decode cX10_restore 63 = .ok (.if_icmp .ge 26, 3) := by decide +kernel
theorem dX10_restore_66 : decode cX10_restore 66 = .ok (.aload_n 0, 1) := by decide +kernel
theorem dX10_restore_67 : decode cX10_restore 67 = .ok (.getfield 16, 3) := by decide +kernel
theorem dX10_restore_70 : decode cX10_restore 70 = .ok (.iload_n 3, 1) := by decide +kernel
theorem dX10_restore_71 : decode cX10_restore 71 = .ok (.aload_n 0, 1) := by decide +kernel
theorem dX10_restore_72 : decode cX10_restore 72 = .ok (.getfield 56, 3) := by decide +kernel
theorem dX10_restore_75 : decode cX10_restore 75 = .ok (.iload_n 2, 1) := by decide +kernel
theorem dX10_restore_76 : decode cX10_restore 76 = .ok (.bipush 64, 2) := by decide +kernel
theorem dX10_restore_78 : decode cX10_restore 78 = .ok (.iadd, 1) := by decide +kernel
theorem dX10_restore_79 : decode cX10_restore 79 = .ok (.iload_n 3, 1) := by decide +kernel
theorem dX10_restore_80 : decode cX10_restore 80 = .ok (.iadd, 1) := by decide +kernel
theorem dX10_restore_81 : decode cX10_restore 81 = .ok (.iaload, 1) := by decide +kernel
theorem dX10_restore_82 : decode cX10_restore 82 = .ok (.iastore, 1) := by decide +kernel
theorem dX10_restore_83 : decode cX10_restore 83 = .ok (.iinc 3 1, 3) := by decide +kernel
theorem dX10_restore_86 : decode cX10_restore 86 = .ok (.goto (-26), 3) := by decide +kernel
theorem dX10_restore_89 : decode cX10_restore 89 = .ok (.iconst 0, 1) := by decide +kernel
theorem dX10_restore_90 : decode cX10_restore 90 = .ok (.istore_n 3, 1) := by decide +kernel
theorem dX10_restore_91 : decode cX10_restore 91 = .ok (.iload_n 3, 1) := by decide +kernel
theorem dX10_restore_92 : decode cX10_restore 92 = .ok (.bipush 32, 2) := by decide +kernel
theorem dX10_restore_94 : decode cX10_restore 94 = .ok (.if_icmp .ge 26, 3) := by decide +kernel
theorem dX10_restore_97 : decode cX10_restore 97 = .ok (.aload_n 0, 1) := by decide +kernel
theorem dX10_restore_98 : decode cX10_restore 98 = .ok (.getfield 19, 3) := by decide +kernel
theorem dX10_restore_101 : decode cX10_restore 101 = .ok (.iload_n 3, 1) := by decide +kernel
theorem dX10_restore_102 : decode cX10_restore 102 = .ok (.aload_n 0, 1) := by decide +kernel
theorem dX10_restore_103 : decode cX10_restore 103 = .ok (.getfield 56, 3) := by decide +kernel
theorem dX10_restore_106 : decode cX10_restore 106 = .ok (.iload_n 2, 1) := by decide +kernel
theorem dX10_restore_107 : decode cX10_restore 107 = .ok (.bipush 113, 2) := by decide +kernel
theorem dX10_restore_109 : decode cX10_restore 109 = .ok (.iadd, 1) := by decide +kernel
theorem dX10_restore_110 : decode cX10_restore 110 = .ok (.iload_n 3, 1) := by decide +kernel
theorem dX10_restore_111 : decode cX10_restore 111 = .ok (.iadd, 1) := by decide +kernel
theorem dX10_restore_112 : decode cX10_restore 112 = .ok (.iaload, 1) := by decide +kernel
theorem dX10_restore_113 : decode cX10_restore 113 = .ok (.iastore, 1) := by decide +kernel
theorem dX10_restore_114 : decode cX10_restore 114 = .ok (.iinc 3 1, 3) := by decide +kernel
theorem dX10_restore_117 : decode cX10_restore 117 = .ok (.goto (-26), 3) := by decide +kernel
theorem dX10_restore_120 : decode cX10_restore 120 = .ok (.iconst 0, 1) := by decide +kernel
theorem dX10_restore_121 : decode cX10_restore 121 = .ok (.istore_n 3, 1) := by decide +kernel
theorem dX10_restore_122 : decode cX10_restore 122 = .ok (.iload_n 3, 1) := by decide +kernel
theorem dX10_restore_123 : decode cX10_restore 123 = .ok (.bipush 24, 2) := by decide +kernel
theorem dX10_restore_125 : decode cX10_restore 125 = .ok (.if_icmp .ge 27, 3) := by decide +kernel
theorem dX10_restore_128 : decode cX10_restore 128 = .ok (.aload_n 0, 1) := by decide +kernel
theorem dX10_restore_129 : decode cX10_restore 129 = .ok (.getfield 22, 3) := by decide +kernel
theorem dX10_restore_132 : decode cX10_restore 132 = .ok (.iload_n 3, 1) := by decide +kernel
theorem dX10_restore_133 : decode cX10_restore 133 = .ok (.aload_n 0, 1) := by decide +kernel
theorem dX10_restore_134 : decode cX10_restore 134 = .ok (.getfield 56, 3) := by decide +kernel
theorem dX10_restore_137 : decode cX10_restore 137 = .ok (.iload_n 2, 1) := by decide +kernel
theorem dX10_restore_138 : decode cX10_restore 138 = .ok (.sipush 145, 3) := by decide +kernel
theorem dX10_restore_141 : decode cX10_restore 141 = .ok (.iadd, 1) := by decide +kernel
theorem dX10_restore_142 : decode cX10_restore 142 = .ok (.iload_n 3, 1) := by decide +kernel
theorem dX10_restore_143 : decode cX10_restore 143 = .ok (.iadd, 1) := by decide +kernel
theorem dX10_restore_144 : decode cX10_restore 144 = .ok (.iaload, 1) := by decide +kernel
theorem dX10_restore_145 : decode cX10_restore 145 = .ok (.iastore, 1) := by decide +kernel
theorem dX10_restore_146 : decode cX10_restore 146 = .ok (.iinc 3 1, 3) := by decide +kernel
theorem dX10_restore_149 : decode cX10_restore 149 = .ok (.goto (-27), 3) := by decide +kernel
theorem dX10_restore_152 : decode cX10_restore 152 = .ok (.aload_n 0, 1) := by decide +kernel
theorem dX10_restore_153 : decode cX10_restore 153 = .ok (.aload_n 0, 1) := by decide +kernel
theorem dX10_restore_154 : decode cX10_restore 154 = .ok (.getfield 56, 3) := by decide +kernel
theorem dX10_restore_157 : decode cX10_restore 157 = .ok (.iload_n 2, 1) := by decide +kernel
theorem dX10_restore_158 : decode cX10_restore 158 = .ok (.sipush 170, 3) := by decide +kernel
theorem dX10_restore_161 : decode cX10_restore 161 = .ok (.iadd, 1) := by decide +kernel
theorem dX10_restore_162 : decode cX10_restore 162 = .ok (.iaload, 1) := by decide +kernel
theorem dX10_restore_163 : decode cX10_restore 163 = .ok (.putfield 157, 3) := by decide +kernel
theorem dX10_restore_166 : decode cX10_restore 166 = .ok (.iconst 1, 1) := by decide +kernel
theorem dX10_restore_167 : decode cX10_restore 167 = .ok (.ireturn, 1) := by decide +kernel
theorem dX10_told_0 : decode cX10_told 0 = .ok (.iload_n 1, 1) := by decide +kernel
theorem dX10_told_1 : decode cX10_told 1 = .ok (.bipush 100, 2) := by decide +kernel
theorem dX10_told_3 : decode cX10_told 3 = .ok (.if_icmp .lt 75, 3) := by decide +kernel
theorem dX10_told_6 : decode cX10_told 6 = .ok (.iload_n 1, 1) := by decide +kernel
theorem dX10_told_7 : decode cX10_told 7 = .ok (.bipush 10, 2) := by decide +kernel
theorem dX10_told_9 : decode cX10_told 9 = .ok (.idiv, 1) := by decide +kernel
theorem dX10_told_10 : decode cX10_told 10 = .ok (.bipush 10, 2) := by decide +kernel
theorem dX10_told_12 : decode cX10_told 12 = .ok (.irem, 1) := by decide +kernel
theorem dX10_told_13 : decode cX10_told 13 = .ok (.istore_n 2, 1) := by decide +kernel
theorem dX10_told_14 : decode cX10_told 14 = .ok (.iload_n 1, 1) := by decide +kernel
theorem dX10_told_15 : decode cX10_told 15 = .ok (.bipush 10, 2) := by decide +kernel
theorem dX10_told_17 : decode cX10_told 17 = .ok (.irem, 1) := by decide +kernel
theorem dX10_told_18 : decode cX10_told 18 = .ok (.istore_n 3, 1) := by decide +kernel
theorem dX10_told_19 : decode cX10_told 19 = .ok (.iload_n 1, 1) := by decide +kernel
theorem dX10_told_20 : decode cX10_told 20 = .ok (.sipush 299, 3) := by decide +kernel
theorem dX10_told_23 : decode cX10_told 23 = .ok (.if_icmp .gt 17, 3) := by decide +kernel
theorem dX10_told_26 : decode cX10_told 26 = .ok (.iload_n 2, 1) := by decide +kernel
theorem dX10_told_27 : decode cX10_told 27 = .ok (.invokestatic 66, 3) := by decide +kernel
theorem dX10_told_30 : decode cX10_told 30 = .ok (.ifCond .eq 10, 3) := by decide +kernel
theorem dX10_told_33 : decode cX10_told 33 = .ok (.iload_n 3, 1) := by decide +kernel
theorem dX10_told_34 : decode cX10_told 34 = .ok (.invokestatic 66, 3) := by decide +kernel
theorem dX10_told_37 : decode cX10_told 37 = .ok (.ifCond .ne 8, 3) := by decide +kernel
theorem dX10_told_40 : decode cX10_told 40 = .ok (.bipush (-2), 2) := by decide +kernel
theorem dX10_told_42 : decode cX10_told 42 = .ok (.goto 35, 3) := by decide +kernel
theorem dX10_told_45 : decode cX10_told 45 = .ok (.iload_n 1, 1) := by decide +kernel
theorem dX10_told_46 : decode cX10_told 46 = .ok (.sipush 200, 3) := by decide +kernel
theorem dX10_told_49 : decode cX10_told 49 = .ok (.if_icmp .ge 17, 3) := by decide +kernel
theorem dX10_told_52 : decode cX10_told 52 = .ok (.aload_n 0, 1) := by decide +kernel
theorem dX10_told_53 : decode cX10_told 53 = .ok (.getfield 7, 3) := by decide +kernel
theorem dX10_told_56 : decode cX10_told 56 = .ok (.bipush 7, 2) := by decide +kernel
theorem dX10_told_58 : decode cX10_told 58 = .ok (.iload_n 2, 1) := by decide +kernel
theorem dX10_told_59 : decode cX10_told 59 = .ok (.imul, 1) := by decide +kernel
theorem dX10_told_60 : decode cX10_told 60 = .ok (.iload_n 3, 1) := by decide +kernel
theorem dX10_told_61 : decode cX10_told 61 = .ok (.iadd, 1) := by decide +kernel
theorem dX10_told_62 : decode cX10_told 62 = .ok (.iaload, 1) := by decide +kernel
theorem dX10_told_63 : decode cX10_told 63 = .ok (.goto 14, 3) := by decide +kernel
theorem dX10_told_66 : decode cX10_told 66 = .ok (.aload_n 0, 1) := by decide +kernel
theorem dX10_told_67 : decode cX10_told 67 = .ok (.getfield 16, 3) := by decide +kernel
theorem dX10_told_70 : decode cX10_told 70 = .ok (.bipush 7, 2) := by decide +kernel
theorem dX10_told_72 : decode cX10_told 72 = .ok (.iload_n 2, 1) := by decide +kernel
theorem dX10_told_73 : decode cX10_told 73 = .ok (.imul, 1) := by decide +kernel
theorem dX10_told_74 : decode cX10_told 74 = .ok (.iload_n 3, 1) := by decide +kernel
theorem dX10_told_75 : decode cX10_told 75 = .ok (.iadd, 1) := by decide +kernel
theorem dX10_told_76 : decode cX10_told 76 = .ok (.iaload, 1) := by decide +kernel
theorem dX10_told_77 : decode cX10_told 77 = .ok (.ireturn, 1) := by decide +kernel
theorem dX10_told_78 : decode cX10_told 78 = .ok (.iload_n 1, 1) := by decide +kernel
theorem dX10_told_79 : decode cX10_told 79 = .ok (.bipush 30, 2) := by decide +kernel
theorem dX10_told_81 : decode cX10_told 81 = .ok (.if_icmp .lt 37, 3) := by decide +kernel
theorem dX10_told_84 : decode cX10_told 84 = .ok (.iload_n 1, 1) := by decide +kernel
theorem dX10_told_85 : decode cX10_told 85 = .ok (.bipush 50, 2) := by decide +kernel
theorem dX10_told_87 : decode cX10_told 87 = .ok (.if_icmp .ge 28, 3) := by decide +kernel
theorem dX10_told_90 : decode cX10_told 90 = .ok (.iload_n 1, 1) := by decide +kernel
theorem dX10_told_91 : decode cX10_told 91 = .ok (.bipush 10, 2) := by decide +kernel
theorem dX10_told_93 : decode cX10_told 93 = .ok (.irem, 1) := by decide +kernel
theorem dX10_told_94 : decode cX10_told 94 = .ok (.iconst 4, 1) := by decide +kernel
theorem dX10_told_95 : decode cX10_told 95 = .ok (.if_icmp .ge 20, 3) := by decide +kernel
theorem dX10_told_98 : decode cX10_told 98 = .ok (.aload_n 0, 1) := by decide +kernel
theorem dX10_told_99 : decode cX10_told 99 = .ok (.iload_n 1, 1) := by decide +kernel
theorem dX10_told_100 : decode cX10_told 100 = .ok (.bipush 10, 2) := by decide +kernel
theorem dX10_told_102 : decode cX10_told 102 = .ok (.idiv, 1) := by decide +kernel
theorem dX10_told_103 : decode cX10_told 103 = .ok (.iconst 3, 1) := by decide +kernel
theorem dX10_told_104 : decode cX10_told 104 = .ok (.isub, 1) := by decide +kernel
theorem dX10_told_105 : decode cX10_told 105 = .ok (.iload_n 1, 1) := by decide +kernel
theorem dX10_told_106 : decode cX10_told 106 = .ok (.bipush 10, 2) := by decide +kernel
theorem dX10_told_108 : decode cX10_told 108 = .ok (.irem, 1) := by decide +kernel
theorem dX10_told_109 : decode cX10_told 109 = .ok (.invokevirtual 77, 3) := by decide +kernel
theorem dX10_told_112 : decode cX10_told 112 = .ok (.goto 5, 3) := by decide +kernel
theorem dX10_told_115 : decode cX10_told 115 = .ok (.bipush (-2), 2) := by decide +kernel
theorem dX10_told_117 : decode cX10_told 117 = .ok (.ireturn, 1) := by decide +kernel
theorem dX10_told_118 : decode cX10_told 118 = .ok (.iload_n 1, 1) := by decide +kernel
theorem dX10_told_119 : decode cX10_told 119 = .ok (.bipush 10, 2) := by decide +kernel
theorem dX10_told_121 : decode cX10_told 121 = .ok (.if_icmp .lt 46, 3) := by decide +kernel
theorem dX10_told_124 : decode cX10_told 124 = .ok (.iload_n 1, 1) := by decide +kernel
theorem dX10_told_125 : decode cX10_told 125 = .ok (.bipush 10, 2) := by decide +kernel
theorem dX10_told_127 : decode cX10_told 127 = .ok (.irem, 1) := by decide +kernel
theorem dX10_told_128 : decode cX10_told 128 = .ok (.invokestatic 66, 3) := by decide +kernel
theorem dX10_told_131 : decode cX10_told 131 = .ok (.ifCond .ne 8, 3) := by decide +kernel
theorem dX10_told_134 : decode cX10_told 134 = .ok (.bipush (-2), 2) := by decide +kernel
theorem dX10_told_136 : decode cX10_told 136 = .ok (.goto 30, 3) := by decide +kernel
theorem dX10_told_139 : decode cX10_told 139 = .ok (.iload_n 1, 1) := by decide +kernel
theorem dX10_told_140 : decode cX10_told 140 = .ok (.bipush 20, 2) := by decide +kernel
theorem dX10_told_142 : decode cX10_told 142 = .ok (.if_icmp .ge 15, 3) := by decide +kernel
theorem dX10_told_145 : decode cX10_told 145 = .ok (.aload_n 0, 1) := by decide +kernel
theorem dX10_told_146 : decode cX10_told 146 = .ok (.getfield 7, 3) := by decide +kernel
theorem dX10_told_149 : decode cX10_told 149 = .ok (.bipush 39, 2) := by decide +kernel
theorem dX10_told_151 : decode cX10_told 151 = .ok (.iload_n 1, 1) := by decide +kernel
theorem dX10_told_152 : decode cX10_told 152 = .ok (.iadd, 1) := by decide +kernel
theorem dX10_told_153 : decode cX10_told 153 = .ok (.iaload, 1) := by decide +kernel
theorem dX10_told_154 : decode cX10_told 154 = .ok (.goto 12, 3) := by decide +kernel
theorem dX10_told_157 : decode cX10_told 157 = .ok (.aload_n 0, 1) := by decide +kernel
theorem dX10_told_158 : decode cX10_told 158 = .ok (.getfield 7, 3) := by decide +kernel
theorem dX10_told_161 : decode cX10_told 161 = .ok (.bipush 36, 2) := by decide +kernel
theorem dX10_told_163 : decode cX10_told 163 = .ok (.iload_n 1, 1) := by decide +kernel
theorem dX10_told_164 : decode cX10_told 164 = .ok (.iadd, 1) := by decide +kernel
theorem dX10_told_165 : decode cX10_told 165 = .ok (.iaload, 1) := by decide +kernel
theorem dX10_told_166 : decode cX10_told 166 = .ok (.ireturn, 1) := by decide +kernel
theorem dX10_told_167 : decode cX10_told 167 = .ok (.aload_n 0, 1) := by decide +kernel
theorem dX10_told_168 : decode cX10_told 168 = .ok (.invokevirtual 70, 3) := by decide +kernel
theorem dX10_told_171 : decode cX10_told 171 = .ok (.iload_n 1, 1) := by decide +kernel
theorem dX10_told_172 : decode cX10_told 172 = .ok (.tableswitch 56 0 3 #[32, 37, 43, 48], 32) := by decide +kernel
theorem dX10_told_204 : decode cX10_told 204 = .ok (.aload_n 0, 1) := by decide +kernel
theorem dX10_told_205 : decode cX10_told 205 = .ok (.getfield 81, 3) := by decide +kernel
theorem dX10_told_208 : decode cX10_told 208 = .ok (.ireturn, 1) := by decide +kernel
theorem dX10_told_209 : decode cX10_told 209 = .ok (.aload_n 0, 1) := by decide +kernel
theorem dX10_told_210 : decode cX10_told 210 = .ok (.iconst 0, 1) := by decide +kernel
theorem dX10_told_211 : decode cX10_told 211 = .ok (.invokevirtual 73, 3) := by decide +kernel
theorem dX10_told_214 : decode cX10_told 214 = .ok (.ireturn, 1) := by decide +kernel
theorem dX10_told_215 : decode cX10_told 215 = .ok (.aload_n 0, 1) := by decide +kernel
theorem dX10_told_216 : decode cX10_told 216 = .ok (.invokevirtual 135, 3) := by decide +kernel
theorem dX10_told_219 : decode cX10_told 219 = .ok (.ireturn, 1) := by decide +kernel
theorem dX10_told_220 : decode cX10_told 220 = .ok (.aload_n 0, 1) := by decide +kernel
theorem dX10_told_221 : decode cX10_told 221 = .ok (.getfield 7, 3) := by decide +kernel
theorem dX10_told_224 : decode cX10_told 224 = .ok (.bipush 63, 2) := by decide +kernel
theorem dX10_told_226 : decode cX10_told 226 = .ok (.iaload, 1) := by decide +kernel
theorem dX10_told_227 : decode cX10_told 227 = .ok (.ireturn, 1) := by decide +kernel
theorem dX10_told_228 : decode cX10_told 228 = .ok (.iload_n 1, 1) := by decide +kernel
theorem dX10_told_229 : decode cX10_told 229 = .ok (.iconst 4, 1) := by decide +kernel
theorem dX10_told_230 : decode cX10_told 230 = .ok (.if_icmp .ne 10, 3) := by decide +kernel
theorem dX10_told_233 : decode cX10_told 233 = .ok (.aload_n 0, 1) := by decide +kernel
theorem dX10_told_234 : decode cX10_told 234 = .ok (.getfield 157, 3) := by decide +kernel
theorem dX10_told_237 : decode cX10_told 237 = .ok (.goto 5, 3) := by decide +kernel
theorem dX10_told_240 : decode cX10_told 240 = .ok (.bipush (-2), 2) := by decide +kernel
theorem dX10_told_242 : decode cX10_told 242 = .ok (.ireturn, 1) := by decide +kernel
theorem dJ6_compare_7cf53_0 : decode cJ6_compare_7cf53 0 = .ok (.iload_n 0, 1) := by decide +kernel
theorem dJ6_compare_7cf53_1 : decode cJ6_compare_7cf53 1 = .ok (.iload_n 1, 1) := by decide +kernel
theorem dJ6_compare_7cf53_2 : decode cJ6_compare_7cf53 2 = .ok (.if_icmp .ge 7, 3) := by decide +kernel
theorem dJ6_compare_7cf53_5 : decode cJ6_compare_7cf53 5 = .ok (.iconst (-1), 1) := by decide +kernel
theorem dJ6_compare_7cf53_6 : decode cJ6_compare_7cf53 6 = .ok (.goto 13, 3) := by decide +kernel
theorem dJ6_compare_7cf53_9 : decode cJ6_compare_7cf53 9 = .ok (.iload_n 0, 1) := by decide +kernel
theorem dJ6_compare_7cf53_10 : decode cJ6_compare_7cf53 10 = .ok (.iload_n 1, 1) := by decide +kernel
theorem dJ6_compare_7cf53_11 : decode cJ6_compare_7cf53 11 = .ok (.if_icmp .ne 7, 3) := by decide +kernel
theorem dJ6_compare_7cf53_14 : decode cJ6_compare_7cf53 14 = .ok (.iconst 0, 1) := by decide +kernel
theorem dJ6_compare_7cf53_15 : decode cJ6_compare_7cf53 15 = .ok (.goto 4, 3) := by decide +kernel
theorem dJ6_compare_7cf53_18 : decode cJ6_compare_7cf53 18 = .ok (.iconst 1, 1) := by decide +kernel
theorem dJ6_compare_7cf53_19 : decode cJ6_compare_7cf53 19 = .ok (.ireturn, 1) := by decide +kernel
theorem dJ6_bitCount_0f7a4_0 : decode cJ6_bitCount_0f7a4 0 = .ok (.iload_n 0, 1) := by decide +kernel
theorem dJ6_bitCount_0f7a4_1 : decode cJ6_bitCount_0f7a4 1 = .ok (.iload_n 0, 1) := by decide +kernel
theorem dJ6_bitCount_0f7a4_2 : decode cJ6_bitCount_0f7a4 2 = .ok (.iconst 1, 1) := by decide +kernel
theorem dJ6_bitCount_0f7a4_3 : decode cJ6_bitCount_0f7a4 3 = .ok (.iushr, 1) := by decide +kernel
theorem dJ6_bitCount_0f7a4_4 : decode cJ6_bitCount_0f7a4 4 = .ok (.ldc_w 265, 3) := by decide +kernel
theorem dJ6_bitCount_0f7a4_7 : decode cJ6_bitCount_0f7a4 7 = .ok (.iand, 1) := by decide +kernel
theorem dJ6_bitCount_0f7a4_8 : decode cJ6_bitCount_0f7a4 8 = .ok (.isub, 1) := by decide +kernel
theorem dJ6_bitCount_0f7a4_9 : decode cJ6_bitCount_0f7a4 9 = .ok (.istore_n 0, 1) := by decide +kernel
theorem dJ6_bitCount_0f7a4_10 : decode cJ6_bitCount_0f7a4 10 = .ok (.iload_n 0, 1) := by decide +kernel
theorem dJ6_bitCount_0f7a4_11 : decode cJ6_bitCount_0f7a4 11 = .ok (.ldc_w 266, 3) := by decide +kernel
theorem dJ6_bitCount_0f7a4_14 : decode cJ6_bitCount_0f7a4 14 = .ok (.iand, 1) := by decide +kernel
theorem dJ6_bitCount_0f7a4_15 : decode cJ6_bitCount_0f7a4 15 = .ok (.iload_n 0, 1) := by decide +kernel
theorem dJ6_bitCount_0f7a4_16 : decode cJ6_bitCount_0f7a4 16 = .ok (.iconst 2, 1) := by decide +kernel
theorem dJ6_bitCount_0f7a4_17 : decode cJ6_bitCount_0f7a4 17 = .ok (.iushr, 1) := by decide +kernel
theorem dJ6_bitCount_0f7a4_18 : decode cJ6_bitCount_0f7a4 18 = .ok (.ldc_w 266, 3) := by decide +kernel
theorem dJ6_bitCount_0f7a4_21 : decode cJ6_bitCount_0f7a4 21 = .ok (.iand, 1) := by decide +kernel
theorem dJ6_bitCount_0f7a4_22 : decode cJ6_bitCount_0f7a4 22 = .ok (.iadd, 1) := by decide +kernel
theorem dJ6_bitCount_0f7a4_23 : decode cJ6_bitCount_0f7a4 23 = .ok (.istore_n 0, 1) := by decide +kernel
theorem dJ6_bitCount_0f7a4_24 : decode cJ6_bitCount_0f7a4 24 = .ok (.iload_n 0, 1) := by decide +kernel
theorem dJ6_bitCount_0f7a4_25 : decode cJ6_bitCount_0f7a4 25 = .ok (.iload_n 0, 1) := by decide +kernel
theorem dJ6_bitCount_0f7a4_26 : decode cJ6_bitCount_0f7a4 26 = .ok (.iconst 4, 1) := by decide +kernel
theorem dJ6_bitCount_0f7a4_27 : decode cJ6_bitCount_0f7a4 27 = .ok (.iushr, 1) := by decide +kernel
theorem dJ6_bitCount_0f7a4_28 : decode cJ6_bitCount_0f7a4 28 = .ok (.iadd, 1) := by decide +kernel
theorem dJ6_bitCount_0f7a4_29 : decode cJ6_bitCount_0f7a4 29 = .ok (.ldc_w 267, 3) := by decide +kernel
theorem dJ6_bitCount_0f7a4_32 : decode cJ6_bitCount_0f7a4 32 = .ok (.iand, 1) := by decide +kernel
theorem dJ6_bitCount_0f7a4_33 : decode cJ6_bitCount_0f7a4 33 = .ok (.istore_n 0, 1) := by decide +kernel
theorem dJ6_bitCount_0f7a4_34 : decode cJ6_bitCount_0f7a4 34 = .ok (.iload_n 0, 1) := by decide +kernel
theorem dJ6_bitCount_0f7a4_35 : decode cJ6_bitCount_0f7a4 35 = .ok (.iload_n 0, 1) := by decide +kernel
theorem dJ6_bitCount_0f7a4_36 : decode cJ6_bitCount_0f7a4 36 = .ok (.bipush 8, 2) := by decide +kernel
theorem dJ6_bitCount_0f7a4_38 : decode cJ6_bitCount_0f7a4 38 = .ok (.iushr, 1) := by decide +kernel
theorem dJ6_bitCount_0f7a4_39 : decode cJ6_bitCount_0f7a4 39 = .ok (.iadd, 1) := by decide +kernel
theorem dJ6_bitCount_0f7a4_40 : decode cJ6_bitCount_0f7a4 40 = .ok (.istore_n 0, 1) := by decide +kernel
theorem dJ6_bitCount_0f7a4_41 : decode cJ6_bitCount_0f7a4 41 = .ok (.iload_n 0, 1) := by decide +kernel
theorem dJ6_bitCount_0f7a4_42 : decode cJ6_bitCount_0f7a4 42 = .ok (.iload_n 0, 1) := by decide +kernel
theorem dJ6_bitCount_0f7a4_43 : decode cJ6_bitCount_0f7a4 43 = .ok (.bipush 16, 2) := by decide +kernel
theorem dJ6_bitCount_0f7a4_45 : decode cJ6_bitCount_0f7a4 45 = .ok (.iushr, 1) := by decide +kernel
theorem dJ6_bitCount_0f7a4_46 : decode cJ6_bitCount_0f7a4 46 = .ok (.iadd, 1) := by decide +kernel
theorem dJ6_bitCount_0f7a4_47 : decode cJ6_bitCount_0f7a4 47 = .ok (.istore_n 0, 1) := by decide +kernel
theorem dJ6_bitCount_0f7a4_48 : decode cJ6_bitCount_0f7a4 48 = .ok (.iload_n 0, 1) := by decide +kernel
theorem dJ6_bitCount_0f7a4_49 : decode cJ6_bitCount_0f7a4 49 = .ok (.bipush 63, 2) := by decide +kernel
theorem dJ6_bitCount_0f7a4_51 : decode cJ6_bitCount_0f7a4 51 = .ok (.iand, 1) := by decide +kernel
theorem dJ6_bitCount_0f7a4_52 : decode cJ6_bitCount_0f7a4 52 = .ok (.ireturn, 1) := by decide +kernel
theorem dJ9_max_7cf53_0 : decode cJ9_max_7cf53 0 = .ok (.iload_n 0, 1) := by decide +kernel
theorem dJ9_max_7cf53_1 : decode cJ9_max_7cf53 1 = .ok (.iload_n 1, 1) := by decide +kernel
theorem dJ9_max_7cf53_2 : decode cJ9_max_7cf53 2 = .ok (.if_icmp .lt 7, 3) := by decide +kernel
theorem dJ9_max_7cf53_5 : decode cJ9_max_7cf53 5 = .ok (.iload_n 0, 1) := by decide +kernel
theorem dJ9_max_7cf53_6 : decode cJ9_max_7cf53 6 = .ok (.goto 4, 3) := by decide +kernel
theorem dJ9_max_7cf53_9 : decode cJ9_max_7cf53 9 = .ok (.iload_n 1, 1) := by decide +kernel
theorem dJ9_max_7cf53_10 : decode cJ9_max_7cf53 10 = .ok (.ireturn, 1) := by decide +kernel
theorem dJ9_min_7cf53_0 : decode cJ9_min_7cf53 0 = .ok (.iload_n 0, 1) := by decide +kernel
theorem dJ9_min_7cf53_1 : decode cJ9_min_7cf53 1 = .ok (.iload_n 1, 1) := by decide +kernel
theorem dJ9_min_7cf53_2 : decode cJ9_min_7cf53 2 = .ok (.if_icmp .gt 7, 3) := by decide +kernel
theorem dJ9_min_7cf53_5 : decode cJ9_min_7cf53 5 = .ok (.iload_n 0, 1) := by decide +kernel
theorem dJ9_min_7cf53_6 : decode cJ9_min_7cf53 6 = .ok (.goto 4, 3) := by decide +kernel
theorem dJ9_min_7cf53_9 : decode cJ9_min_7cf53 9 = .ok (.iload_n 1, 1) := by decide +kernel
theorem dJ9_min_7cf53_10 : decode cJ9_min_7cf53 10 = .ok (.ireturn, 1) := by decide +kernel
theorem dJ7_fill_53178_0 : decode cJ7_fill_53178 0 = .ok (.iconst 0, 1) := by decide +kernel
theorem dJ7_fill_53178_1 : decode cJ7_fill_53178 1 = .ok (.istore_n 2, 1) := by decide +kernel
theorem dJ7_fill_53178_2 : decode cJ7_fill_53178 2 = .ok (.aload_n 0, 1) := by decide +kernel
theorem dJ7_fill_53178_3 : decode cJ7_fill_53178 3 = .ok (.arraylength, 1) := by decide +kernel
theorem dJ7_fill_53178_4 : decode cJ7_fill_53178 4 = .ok (.istore_n 3, 1) := by decide +kernel
theorem dJ7_fill_53178_5 : decode cJ7_fill_53178 5 = .ok (.iload_n 2, 1) := by decide +kernel
theorem dJ7_fill_53178_6 : decode cJ7_fill_53178 6 = .ok (.iload_n 3, 1) := by decide +kernel
theorem dJ7_fill_53178_7 : decode cJ7_fill_53178 7 = .ok (.if_icmp .ge 13, 3) := by decide +kernel
theorem dJ7_fill_53178_10 : decode cJ7_fill_53178 10 = .ok (.aload_n 0, 1) := by decide +kernel
theorem dJ7_fill_53178_11 : decode cJ7_fill_53178 11 = .ok (.iload_n 2, 1) := by decide +kernel
theorem dJ7_fill_53178_12 : decode cJ7_fill_53178 12 = .ok (.iload_n 1, 1) := by decide +kernel
theorem dJ7_fill_53178_13 : decode cJ7_fill_53178 13 = .ok (.iastore, 1) := by decide +kernel
theorem dJ7_fill_53178_14 : decode cJ7_fill_53178 14 = .ok (.iinc 2 1, 3) := by decide +kernel
theorem dJ7_fill_53178_17 : decode cJ7_fill_53178 17 = .ok (.goto (-12), 3) := by decide +kernel
theorem dJ7_fill_53178_20 : decode cJ7_fill_53178 20 = .ok (.return_, 1) := by decide +kernel
theorem dL_law_0 : decode cL_law 0 = .ok (.new 7, 3) := by decide +kernel
theorem dL_law_3 : decode cL_law 3 = .ok (.dup, 1) := by decide +kernel
theorem dL_law_4 : decode cL_law 4 = .ok (.invokespecial 9, 3) := by decide +kernel
theorem dL_law_7 : decode cL_law 7 = .ok (.astore_n 1, 1) := by decide +kernel
theorem dL_law_8 : decode cL_law 8 = .ok (.new 10, 3) := by decide +kernel
theorem dL_law_11 : decode cL_law 11 = .ok (.dup, 1) := by decide +kernel
theorem dL_law_12 : decode cL_law 12 = .ok (.invokespecial 12, 3) := by decide +kernel
theorem dL_law_15 : decode cL_law 15 = .ok (.astore_n 2, 1) := by decide +kernel
theorem dL_law_16 : decode cL_law 16 = .ok (.iconst 0, 1) := by decide +kernel
theorem dL_law_17 : decode cL_law 17 = .ok (.istore_n 3, 1) := by decide +kernel
theorem dL_law_18 : decode cL_law 18 = .ok (.iload_n 3, 1) := by decide +kernel
theorem dL_law_19 : decode cL_law 19 = .ok (.aload_n 0, 1) := by decide +kernel
theorem dL_law_20 : decode cL_law 20 = .ok (.arraylength, 1) := by decide +kernel
theorem dL_law_21 : decode cL_law 21 = .ok (.bipush 6, 2) := by decide +kernel
theorem dL_law_23 : decode cL_law 23 = .ok (.isub, 1) := by decide +kernel
theorem dL_law_24 : decode cL_law 24 = .ok (.if_icmp .gt 919, 3) := by decide +kernel
theorem dL_law_27 : decode cL_law 27 = .ok (.aload_n 0, 1) := by decide +kernel
theorem dL_law_28 : decode cL_law 28 = .ok (.iload_n 3, 1) := by decide +kernel
theorem dL_law_29 : decode cL_law 29 = .ok (.iaload, 1) := by decide +kernel
theorem dL_law_30 : decode cL_law 30 = .ok (.bipush 31, 2) := by decide +kernel
theorem dL_law_32 : decode cL_law 32 = .ok (.iand, 1) := by decide +kernel
theorem dL_law_33 : decode cL_law 33 = .ok (.tableswitch 904 0 25 #[119, 162, 205, 248, 291, 314, 327, 340, 363, 376, 409, 442, 465, 498, 521, 534, 577, 636, 649, 672, 695, 728, 792, 835, 858, 881], 119) := by decide +kernel
theorem dL_law_152 : decode cL_law 152 = .ok (.aload_n 1, 1) := by decide +kernel
theorem dL_law_153 : decode cL_law 153 = .ok (.aload_n 0, 1) := by decide +kernel
theorem dL_law_154 : decode cL_law 154 = .ok (.iload_n 3, 1) := by decide +kernel
theorem dL_law_155 : decode cL_law 155 = .ok (.iconst 1, 1) := by decide +kernel
theorem dL_law_156 : decode cL_law 156 = .ok (.iadd, 1) := by decide +kernel
theorem dL_law_157 : decode cL_law 157 = .ok (.iaload, 1) := by decide +kernel
theorem dL_law_158 : decode cL_law 158 = .ok (.aload_n 0, 1) := by decide +kernel
theorem dL_law_159 : decode cL_law 159 = .ok (.iload_n 3, 1) := by decide +kernel
theorem dL_law_160 : decode cL_law 160 = .ok (.iconst 2, 1) := by decide +kernel
theorem dL_law_161 : decode cL_law 161 = .ok (.iadd, 1) := by decide +kernel
theorem dL_law_162 : decode cL_law 162 = .ok (.iaload, 1) := by decide +kernel
theorem dL_law_163 : decode cL_law 163 = .ok (.aload_n 0, 1) := by decide +kernel
theorem dL_law_164 : decode cL_law 164 = .ok (.iload_n 3, 1) := by decide +kernel
theorem dL_law_165 : decode cL_law 165 = .ok (.iconst 3, 1) := by decide +kernel
theorem dL_law_166 : decode cL_law 166 = .ok (.iadd, 1) := by decide +kernel
theorem dL_law_167 : decode cL_law 167 = .ok (.iaload, 1) := by decide +kernel
theorem dL_law_168 : decode cL_law 168 = .ok (.invokevirtual 13, 3) := by decide +kernel
theorem dL_law_171 : decode cL_law 171 = .ok (.aload_n 2, 1) := by decide +kernel
theorem dL_law_172 : decode cL_law 172 = .ok (.aload_n 0, 1) := by decide +kernel
theorem dL_law_173 : decode cL_law 173 = .ok (.iload_n 3, 1) := by decide +kernel
theorem dL_law_174 : decode cL_law 174 = .ok (.iconst 1, 1) := by decide +kernel
theorem dL_law_175 : decode cL_law 175 = .ok (.iadd, 1) := by decide +kernel
theorem dL_law_176 : decode cL_law 176 = .ok (.iaload, 1) := by decide +kernel
theorem dL_law_177 : decode cL_law 177 = .ok (.aload_n 0, 1) := by decide +kernel
theorem dL_law_178 : decode cL_law 178 = .ok (.iload_n 3, 1) := by decide +kernel
theorem dL_law_179 : decode cL_law 179 = .ok (.iconst 2, 1) := by decide +kernel
theorem dL_law_180 : decode cL_law 180 = .ok (.iadd, 1) := by decide +kernel
theorem dL_law_181 : decode cL_law 181 = .ok (.iaload, 1) := by decide +kernel
theorem dL_law_182 : decode cL_law 182 = .ok (.aload_n 0, 1) := by decide +kernel
theorem dL_law_183 : decode cL_law 183 = .ok (.iload_n 3, 1) := by decide +kernel
theorem dL_law_184 : decode cL_law 184 = .ok (.iconst 3, 1) := by decide +kernel
theorem dL_law_185 : decode cL_law 185 = .ok (.iadd, 1) := by decide +kernel
theorem dL_law_186 : decode cL_law 186 = .ok (.iaload, 1) := by decide +kernel
theorem dL_law_187 : decode cL_law 187 = .ok (.invokevirtual 17, 3) := by decide +kernel
theorem dL_law_190 : decode cL_law 190 = .ok (.if_icmp .eq 747, 3) := by decide +kernel
theorem dL_law_193 : decode cL_law 193 = .ok (.iconst 0, 1) := by decide +kernel
theorem dL_law_194 : decode cL_law 194 = .ok (.ireturn, 1) := by decide +kernel
theorem dL_law_195 : decode cL_law 195 = .ok (.aload_n 1, 1) := by decide +kernel
theorem dL_law_196 : decode cL_law 196 = .ok (.aload_n 0, 1) := by decide +kernel
theorem dL_law_197 : decode cL_law 197 = .ok (.iload_n 3, 1) := by decide +kernel
theorem dL_law_198 : decode cL_law 198 = .ok (.iconst 1, 1) := by decide +kernel
theorem dL_law_199 : decode cL_law 199 = .ok (.iadd, 1) := by decide +kernel
theorem dL_law_200 : decode cL_law 200 = .ok (.iaload, 1) := by decide +kernel
theorem dL_law_201 : decode cL_law 201 = .ok (.aload_n 0, 1) := by decide +kernel
theorem dL_law_202 : decode cL_law 202 = .ok (.iload_n 3, 1) := by decide +kernel
theorem dL_law_203 : decode cL_law 203 = .ok (.iconst 2, 1) := by decide +kernel
theorem dL_law_204 : decode cL_law 204 = .ok (.iadd, 1) := by decide +kernel
theorem dL_law_205 : decode cL_law 205 = .ok (.iaload, 1) := by decide +kernel
theorem dL_law_206 : decode cL_law 206 = .ok (.aload_n 0, 1) := by decide +kernel
theorem dL_law_207 : decode cL_law 207 = .ok (.iload_n 3, 1) := by decide +kernel
theorem dL_law_208 : decode cL_law 208 = .ok (.iconst 3, 1) := by decide +kernel
theorem dL_law_209 : decode cL_law 209 = .ok (.iadd, 1) := by decide +kernel
theorem dL_law_210 : decode cL_law 210 = .ok (.iaload, 1) := by decide +kernel
theorem dL_law_211 : decode cL_law 211 = .ok (.invokevirtual 18, 3) := by decide +kernel
theorem dL_law_214 : decode cL_law 214 = .ok (.aload_n 2, 1) := by decide +kernel
theorem dL_law_215 : decode cL_law 215 = .ok (.aload_n 0, 1) := by decide +kernel
theorem dL_law_216 : decode cL_law 216 = .ok (.iload_n 3, 1) := by decide +kernel
theorem dL_law_217 : decode cL_law 217 = .ok (.iconst 1, 1) := by decide +kernel
theorem dL_law_218 : decode cL_law 218 = .ok (.iadd, 1) := by decide +kernel
theorem dL_law_219 : decode cL_law 219 = .ok (.iaload, 1) := by decide +kernel
theorem dL_law_220 : decode cL_law 220 = .ok (.aload_n 0, 1) := by decide +kernel
theorem dL_law_221 : decode cL_law 221 = .ok (.iload_n 3, 1) := by decide +kernel
theorem dL_law_222 : decode cL_law 222 = .ok (.iconst 2, 1) := by decide +kernel
theorem dL_law_223 : decode cL_law 223 = .ok (.iadd, 1) := by decide +kernel
theorem dL_law_224 : decode cL_law 224 = .ok (.iaload, 1) := by decide +kernel
theorem dL_law_225 : decode cL_law 225 = .ok (.aload_n 0, 1) := by decide +kernel
theorem dL_law_226 : decode cL_law 226 = .ok (.iload_n 3, 1) := by decide +kernel
theorem dL_law_227 : decode cL_law 227 = .ok (.iconst 3, 1) := by decide +kernel
theorem dL_law_228 : decode cL_law 228 = .ok (.iadd, 1) := by decide +kernel
theorem dL_law_229 : decode cL_law 229 = .ok (.iaload, 1) := by decide +kernel
theorem dL_law_230 : decode cL_law 230 = .ok (.invokevirtual 21, 3) := by decide +kernel
theorem dL_law_233 : decode cL_law 233 = .ok (.if_icmp .eq 704, 3) := by decide +kernel
theorem dL_law_236 : decode cL_law 236 = .ok (.iconst 0, 1) := by decide +kernel
theorem dL_law_237 : decode cL_law 237 = .ok (.ireturn, 1) := by decide +kernel
theorem dL_law_238 : decode cL_law 238 = .ok (.aload_n 1, 1) := by decide +kernel
theorem dL_law_239 : decode cL_law 239 = .ok (.aload_n 0, 1) := by decide +kernel
theorem dL_law_240 : decode cL_law 240 = .ok (.iload_n 3, 1) := by decide +kernel
theorem dL_law_241 : decode cL_law 241 = .ok (.iconst 1, 1) := by decide +kernel
theorem dL_law_242 : decode cL_law 242 = .ok (.iadd, 1) := by decide +kernel
theorem dL_law_243 : decode cL_law 243 = .ok (.iaload, 1) := by decide +kernel
theorem dL_law_244 : decode cL_law 244 = .ok (.aload_n 0, 1) := by decide +kernel
theorem dL_law_245 : decode cL_law 245 = .ok (.iload_n 3, 1) := by decide +kernel
theorem dL_law_246 : decode cL_law 246 = .ok (.iconst 2, 1) := by decide +kernel
theorem dL_law_247 : decode cL_law 247 = .ok (.iadd, 1) := by decide +kernel
theorem dL_law_248 : decode cL_law 248 = .ok (.iaload, 1) := by decide +kernel
theorem dL_law_249 : decode cL_law 249 = .ok (.aload_n 0, 1) := by decide +kernel
theorem dL_law_250 : decode cL_law 250 = .ok (.iload_n 3, 1) := by decide +kernel
theorem dL_law_251 : decode cL_law 251 = .ok (.iconst 3, 1) := by decide +kernel
theorem dL_law_252 : decode cL_law 252 = .ok (.iadd, 1) := by decide +kernel
theorem dL_law_253 : decode cL_law 253 = .ok (.iaload, 1) := by decide +kernel
theorem dL_law_254 : decode cL_law 254 = .ok (.invokevirtual 22, 3) := by decide +kernel
theorem dL_law_257 : decode cL_law 257 = .ok (.aload_n 2, 1) := by decide +kernel
theorem dL_law_258 : decode cL_law 258 = .ok (.aload_n 0, 1) := by decide +kernel
theorem dL_law_259 : decode cL_law 259 = .ok (.iload_n 3, 1) := by decide +kernel
theorem dL_law_260 : decode cL_law 260 = .ok (.iconst 1, 1) := by decide +kernel
theorem dL_law_261 : decode cL_law 261 = .ok (.iadd, 1) := by decide +kernel
theorem dL_law_262 : decode cL_law 262 = .ok (.iaload, 1) := by decide +kernel
theorem dL_law_263 : decode cL_law 263 = .ok (.aload_n 0, 1) := by decide +kernel
theorem dL_law_264 : decode cL_law 264 = .ok (.iload_n 3, 1) := by decide +kernel
theorem dL_law_265 : decode cL_law 265 = .ok (.iconst 2, 1) := by decide +kernel
theorem dL_law_266 : decode cL_law 266 = .ok (.iadd, 1) := by decide +kernel
theorem dL_law_267 : decode cL_law 267 = .ok (.iaload, 1) := by decide +kernel
theorem dL_law_268 : decode cL_law 268 = .ok (.aload_n 0, 1) := by decide +kernel
theorem dL_law_269 : decode cL_law 269 = .ok (.iload_n 3, 1) := by decide +kernel
theorem dL_law_270 : decode cL_law 270 = .ok (.iconst 3, 1) := by decide +kernel
theorem dL_law_271 : decode cL_law 271 = .ok (.iadd, 1) := by decide +kernel
theorem dL_law_272 : decode cL_law 272 = .ok (.iaload, 1) := by decide +kernel
theorem dL_law_273 : decode cL_law 273 = .ok (.invokevirtual 25, 3) := by decide +kernel
theorem dL_law_276 : decode cL_law 276 = .ok (.if_icmp .eq 661, 3) := by decide +kernel
theorem dL_law_279 : decode cL_law 279 = .ok (.iconst 0, 1) := by decide +kernel
theorem dL_law_280 : decode cL_law 280 = .ok (.ireturn, 1) := by decide +kernel
theorem dL_law_281 : decode cL_law 281 = .ok (.aload_n 1, 1) := by decide +kernel
theorem dL_law_282 : decode cL_law 282 = .ok (.aload_n 0, 1) := by decide +kernel
theorem dL_law_283 : decode cL_law 283 = .ok (.iload_n 3, 1) := by decide +kernel
theorem dL_law_284 : decode cL_law 284 = .ok (.iconst 1, 1) := by decide +kernel
theorem dL_law_285 : decode cL_law 285 = .ok (.iadd, 1) := by decide +kernel
theorem dL_law_286 : decode cL_law 286 = .ok (.iaload, 1) := by decide +kernel
theorem dL_law_287 : decode cL_law 287 = .ok (.aload_n 0, 1) := by decide +kernel
theorem dL_law_288 : decode cL_law 288 = .ok (.iload_n 3, 1) := by decide +kernel
theorem dL_law_289 : decode cL_law 289 = .ok (.iconst 2, 1) := by decide +kernel
theorem dL_law_290 : decode cL_law 290 = .ok (.iadd, 1) := by decide +kernel
theorem dL_law_291 : decode cL_law 291 = .ok (.iaload, 1) := by decide +kernel
theorem dL_law_292 : decode cL_law 292 = .ok (.aload_n 0, 1) := by decide +kernel
theorem dL_law_293 : decode cL_law 293 = .ok (.iload_n 3, 1) := by decide +kernel
theorem dL_law_294 : decode cL_law 294 = .ok (.iconst 3, 1) := by decide +kernel
theorem dL_law_295 : decode cL_law 295 = .ok (.iadd, 1) := by decide +kernel
theorem dL_law_296 : decode cL_law 296 = .ok (.iaload, 1) := by decide +kernel
theorem dL_law_297 : decode cL_law 297 = .ok (.invokevirtual 26, 3) := by decide +kernel
theorem dL_law_300 : decode cL_law 300 = .ok (.aload_n 2, 1) := by decide +kernel
theorem dL_law_301 : decode cL_law 301 = .ok (.aload_n 0, 1) := by decide +kernel
theorem dL_law_302 : decode cL_law 302 = .ok (.iload_n 3, 1) := by decide +kernel
theorem dL_law_303 : decode cL_law 303 = .ok (.iconst 1, 1) := by decide +kernel
theorem dL_law_304 : decode cL_law 304 = .ok (.iadd, 1) := by decide +kernel
theorem dL_law_305 : decode cL_law 305 = .ok (.iaload, 1) := by decide +kernel
theorem dL_law_306 : decode cL_law 306 = .ok (.aload_n 0, 1) := by decide +kernel
theorem dL_law_307 : decode cL_law 307 = .ok (.iload_n 3, 1) := by decide +kernel
theorem dL_law_308 : decode cL_law 308 = .ok (.iconst 2, 1) := by decide +kernel
theorem dL_law_309 : decode cL_law 309 = .ok (.iadd, 1) := by decide +kernel
theorem dL_law_310 : decode cL_law 310 = .ok (.iaload, 1) := by decide +kernel
theorem dL_law_311 : decode cL_law 311 = .ok (.aload_n 0, 1) := by decide +kernel
theorem dL_law_312 : decode cL_law 312 = .ok (.iload_n 3, 1) := by decide +kernel
theorem dL_law_313 : decode cL_law 313 = .ok (.iconst 3, 1) := by decide +kernel
theorem dL_law_314 : decode cL_law 314 = .ok (.iadd, 1) := by decide +kernel
theorem dL_law_315 : decode cL_law 315 = .ok (.iaload, 1) := by decide +kernel
theorem dL_law_316 : decode cL_law 316 = .ok (.invokevirtual 29, 3) := by decide +kernel
theorem dL_law_319 : decode cL_law 319 = .ok (.if_icmp .eq 618, 3) := by decide +kernel
theorem dL_law_322 : decode cL_law 322 = .ok (.iconst 0, 1) := by decide +kernel
theorem dL_law_323 : decode cL_law 323 = .ok (.ireturn, 1) := by decide +kernel
theorem dL_law_324 : decode cL_law 324 = .ok (.aload_n 1, 1) := by decide +kernel
theorem dL_law_325 : decode cL_law 325 = .ok (.aload_n 0, 1) := by decide +kernel
theorem dL_law_326 : decode cL_law 326 = .ok (.iload_n 3, 1) := by decide +kernel
theorem dL_law_327 : decode cL_law 327 = .ok (.iconst 1, 1) := by decide +kernel
theorem dL_law_328 : decode cL_law 328 = .ok (.iadd, 1) := by decide +kernel
theorem dL_law_329 : decode cL_law 329 = .ok (.iaload, 1) := by decide +kernel
theorem dL_law_330 : decode cL_law 330 = .ok (.invokevirtual 30, 3) := by decide +kernel
theorem dL_law_333 : decode cL_law 333 = .ok (.aload_n 2, 1) := by decide +kernel
theorem dL_law_334 : decode cL_law 334 = .ok (.aload_n 0, 1) := by decide +kernel
theorem dL_law_335 : decode cL_law 335 = .ok (.iload_n 3, 1) := by decide +kernel
theorem dL_law_336 : decode cL_law 336 = .ok (.iconst 1, 1) := by decide +kernel
theorem dL_law_337 : decode cL_law 337 = .ok (.iadd, 1) := by decide +kernel
theorem dL_law_338 : decode cL_law 338 = .ok (.iaload, 1) := by decide +kernel
theorem dL_law_339 : decode cL_law 339 = .ok (.invokevirtual 34, 3) := by decide +kernel
theorem dL_law_342 : decode cL_law 342 = .ok (.if_icmp .eq 595, 3) := by decide +kernel
theorem dL_law_345 : decode cL_law 345 = .ok (.iconst 0, 1) := by decide +kernel
theorem dL_law_346 : decode cL_law 346 = .ok (.ireturn, 1) := by decide +kernel
theorem dL_law_347 : decode cL_law 347 = .ok (.aload_n 1, 1) := by decide +kernel
theorem dL_law_348 : decode cL_law 348 = .ok (.invokevirtual 35, 3) := by decide +kernel
theorem dL_law_351 : decode cL_law 351 = .ok (.aload_n 2, 1) := by decide +kernel
theorem dL_law_352 : decode cL_law 352 = .ok (.invokevirtual 39, 3) := by decide +kernel
theorem dL_law_355 : decode cL_law 355 = .ok (.if_icmp .eq 582, 3) := by decide +kernel
theorem dL_law_358 : decode cL_law 358 = .ok (.iconst 0, 1) := by decide +kernel
theorem dL_law_359 : decode cL_law 359 = .ok (.ireturn, 1) := by decide +kernel
theorem dL_law_360 : decode cL_law 360 = .ok (.aload_n 1, 1) := by decide +kernel
theorem dL_law_361 : decode cL_law 361 = .ok (.invokevirtual 40, 3) := by decide +kernel
theorem dL_law_364 : decode cL_law 364 = .ok (.aload_n 2, 1) := by decide +kernel
theorem dL_law_365 : decode cL_law 365 = .ok (.invokevirtual 43, 3) := by decide +kernel
theorem dL_law_368 : decode cL_law 368 = .ok (.if_icmp .eq 569, 3) := by decide +kernel
theorem dL_law_371 : decode cL_law 371 = .ok (.iconst 0, 1) := by decide +kernel
theorem dL_law_372 : decode cL_law 372 = .ok (.ireturn, 1) := by decide +kernel
theorem dL_law_373 : decode cL_law 373 = .ok (.aload_n 1, 1) := by decide +kernel
theorem dL_law_374 : decode cL_law 374 = .ok (.aload_n 0, 1) := by decide +kernel
theorem dL_law_375 : decode cL_law 375 = .ok (.iload_n 3, 1) := by decide +kernel
theorem dL_law_376 : decode cL_law 376 = .ok (.iconst 1, 1) := by decide +kernel
theorem dL_law_377 : decode cL_law 377 = .ok (.iadd, 1) := by decide +kernel
theorem dL_law_378 : decode cL_law 378 = .ok (.iaload, 1) := by decide +kernel
theorem dL_law_379 : decode cL_law 379 = .ok (.invokevirtual 44, 3) := by decide +kernel
theorem dL_law_382 : decode cL_law 382 = .ok (.aload_n 2, 1) := by decide +kernel
theorem dL_law_383 : decode cL_law 383 = .ok (.aload_n 0, 1) := by decide +kernel
theorem dL_law_384 : decode cL_law 384 = .ok (.iload_n 3, 1) := by decide +kernel
theorem dL_law_385 : decode cL_law 385 = .ok (.iconst 1, 1) := by decide +kernel
theorem dL_law_386 : decode cL_law 386 = .ok (.iadd, 1) := by decide +kernel
theorem dL_law_387 : decode cL_law 387 = .ok (.iaload, 1) := by decide +kernel
theorem dL_law_388 : decode cL_law 388 = .ok (.invokevirtual 47, 3) := by decide +kernel
theorem dL_law_391 : decode cL_law 391 = .ok (.if_icmp .eq 546, 3) := by decide +kernel
theorem dL_law_394 : decode cL_law 394 = .ok (.iconst 0, 1) := by decide +kernel
theorem dL_law_395 : decode cL_law 395 = .ok (.ireturn, 1) := by decide +kernel
theorem dL_law_396 : decode cL_law 396 = .ok (.aload_n 1, 1) := by decide +kernel
theorem dL_law_397 : decode cL_law 397 = .ok (.invokevirtual 48, 3) := by decide +kernel
theorem dL_law_400 : decode cL_law 400 = .ok (.aload_n 2, 1) := by decide +kernel
theorem dL_law_401 : decode cL_law 401 = .ok (.invokevirtual 51, 3) := by decide +kernel
theorem dL_law_404 : decode cL_law 404 = .ok (.if_icmp .eq 533, 3) := by decide +kernel
theorem dL_law_407 : decode cL_law 407 = .ok (.iconst 0, 1) := by decide +kernel
theorem dL_law_408 : decode cL_law 408 = .ok (.ireturn, 1) := by decide +kernel
theorem dL_law_409 : decode cL_law 409 = .ok (.aload_n 1, 1) := by decide +kernel
theorem dL_law_410 : decode cL_law 410 = .ok (.aload_n 0, 1) := by decide +kernel
theorem dL_law_411 : decode cL_law 411 = .ok (.iload_n 3, 1) := by decide +kernel
theorem dL_law_412 : decode cL_law 412 = .ok (.iconst 1, 1) := by decide +kernel
theorem dL_law_413 : decode cL_law 413 = .ok (.iadd, 1) := by decide +kernel
theorem dL_law_414 : decode cL_law 414 = .ok (.iaload, 1) := by decide +kernel
theorem dL_law_415 : decode cL_law 415 = .ok (.aload_n 0, 1) := by decide +kernel
theorem dL_law_416 : decode cL_law 416 = .ok (.iload_n 3, 1) := by decide +kernel
theorem dL_law_417 : decode cL_law 417 = .ok (.iconst 2, 1) := by decide +kernel
theorem dL_law_418 : decode cL_law 418 = .ok (.iadd, 1) := by decide +kernel
theorem dL_law_419 : decode cL_law 419 = .ok (.iaload, 1) := by decide +kernel
theorem dL_law_420 : decode cL_law 420 = .ok (.invokevirtual 52, 3) := by decide +kernel
theorem dL_law_423 : decode cL_law 423 = .ok (.aload_n 2, 1) := by decide +kernel
theorem dL_law_424 : decode cL_law 424 = .ok (.aload_n 0, 1) := by decide +kernel
theorem dL_law_425 : decode cL_law 425 = .ok (.iload_n 3, 1) := by decide +kernel
theorem dL_law_426 : decode cL_law 426 = .ok (.iconst 1, 1) := by decide +kernel
theorem dL_law_427 : decode cL_law 427 = .ok (.iadd, 1) := by decide +kernel
theorem dL_law_428 : decode cL_law 428 = .ok (.iaload, 1) := by decide +kernel
theorem dL_law_429 : decode cL_law 429 = .ok (.aload_n 0, 1) := by decide +kernel
theorem dL_law_430 : decode cL_law 430 = .ok (.iload_n 3, 1) := by decide +kernel
theorem dL_law_431 : decode cL_law 431 = .ok (.iconst 2, 1) := by decide +kernel
theorem dL_law_432 : decode cL_law 432 = .ok (.iadd, 1) := by decide +kernel
theorem dL_law_433 : decode cL_law 433 = .ok (.iaload, 1) := by decide +kernel
theorem dL_law_434 : decode cL_law 434 = .ok (.invokevirtual 56, 3) := by decide +kernel
theorem dL_law_437 : decode cL_law 437 = .ok (.if_icmp .eq 500, 3) := by decide +kernel
theorem dL_law_440 : decode cL_law 440 = .ok (.iconst 0, 1) := by decide +kernel
theorem dL_law_441 : decode cL_law 441 = .ok (.ireturn, 1) := by decide +kernel
theorem dL_law_442 : decode cL_law 442 = .ok (.aload_n 1, 1) := by decide +kernel
theorem dL_law_443 : decode cL_law 443 = .ok (.aload_n 0, 1) := by decide +kernel
theorem dL_law_444 : decode cL_law 444 = .ok (.iload_n 3, 1) := by decide +kernel
theorem dL_law_445 : decode cL_law 445 = .ok (.iconst 1, 1) := by decide +kernel
theorem dL_law_446 : decode cL_law 446 = .ok (.iadd, 1) := by decide +kernel
theorem dL_law_447 : decode cL_law 447 = .ok (.iaload, 1) := by decide +kernel
theorem dL_law_448 : decode cL_law 448 = .ok (.aload_n 0, 1) := by decide +kernel
theorem dL_law_449 : decode cL_law 449 = .ok (.iload_n 3, 1) := by decide +kernel
theorem dL_law_450 : decode cL_law 450 = .ok (.iconst 2, 1) := by decide +kernel
theorem dL_law_451 : decode cL_law 451 = .ok (.iadd, 1) := by decide +kernel
theorem dL_law_452 : decode cL_law 452 = .ok (.iaload, 1) := by decide +kernel
theorem dL_law_453 : decode cL_law 453 = .ok (.invokevirtual 57, 3) := by decide +kernel
theorem dL_law_456 : decode cL_law 456 = .ok (.aload_n 2, 1) := by decide +kernel
theorem dL_law_457 : decode cL_law 457 = .ok (.aload_n 0, 1) := by decide +kernel
theorem dL_law_458 : decode cL_law 458 = .ok (.iload_n 3, 1) := by decide +kernel
theorem dL_law_459 : decode cL_law 459 = .ok (.iconst 1, 1) := by decide +kernel
theorem dL_law_460 : decode cL_law 460 = .ok (.iadd, 1) := by decide +kernel
theorem dL_law_461 : decode cL_law 461 = .ok (.iaload, 1) := by decide +kernel
theorem dL_law_462 : decode cL_law 462 = .ok (.aload_n 0, 1) := by decide +kernel
theorem dL_law_463 : decode cL_law 463 = .ok (.iload_n 3, 1) := by decide +kernel
theorem dL_law_464 : decode cL_law 464 = .ok (.iconst 2, 1) := by decide +kernel
theorem dL_law_465 : decode cL_law 465 = .ok (.iadd, 1) := by decide +kernel
theorem dL_law_466 : decode cL_law 466 = .ok (.iaload, 1) := by decide +kernel
theorem dL_law_467 : decode cL_law 467 = .ok (.invokevirtual 60, 3) := by decide +kernel
theorem dL_law_470 : decode cL_law 470 = .ok (.if_icmp .eq 467, 3) := by decide +kernel
theorem dL_law_473 : decode cL_law 473 = .ok (.iconst 0, 1) := by decide +kernel
theorem dL_law_474 : decode cL_law 474 = .ok (.ireturn, 1) := by decide +kernel
theorem dL_law_475 : decode cL_law 475 = .ok (.aload_n 1, 1) := by decide +kernel
theorem dL_law_476 : decode cL_law 476 = .ok (.aload_n 0, 1) := by decide +kernel
theorem dL_law_477 : decode cL_law 477 = .ok (.iload_n 3, 1) := by decide +kernel
theorem dL_law_478 : decode cL_law 478 = .ok (.iconst 1, 1) := by decide +kernel
theorem dL_law_479 : decode cL_law 479 = .ok (.iadd, 1) := by decide +kernel
theorem dL_law_480 : decode cL_law 480 = .ok (.iaload, 1) := by decide +kernel
theorem dL_law_481 : decode cL_law 481 = .ok (.invokevirtual 61, 3) := by decide +kernel
theorem dL_law_484 : decode cL_law 484 = .ok (.aload_n 2, 1) := by decide +kernel
theorem dL_law_485 : decode cL_law 485 = .ok (.aload_n 0, 1) := by decide +kernel
theorem dL_law_486 : decode cL_law 486 = .ok (.iload_n 3, 1) := by decide +kernel
theorem dL_law_487 : decode cL_law 487 = .ok (.iconst 1, 1) := by decide +kernel
theorem dL_law_488 : decode cL_law 488 = .ok (.iadd, 1) := by decide +kernel
theorem dL_law_489 : decode cL_law 489 = .ok (.iaload, 1) := by decide +kernel
theorem dL_law_490 : decode cL_law 490 = .ok (.invokevirtual 64, 3) := by decide +kernel
theorem dL_law_493 : decode cL_law 493 = .ok (.if_icmp .eq 444, 3) := by decide +kernel
theorem dL_law_496 : decode cL_law 496 = .ok (.iconst 0, 1) := by decide +kernel
theorem dL_law_497 : decode cL_law 497 = .ok (.ireturn, 1) := by decide +kernel
theorem dL_law_498 : decode cL_law 498 = .ok (.aload_n 1, 1) := by decide +kernel
theorem dL_law_499 : decode cL_law 499 = .ok (.aload_n 0, 1) := by decide +kernel
theorem dL_law_500 : decode cL_law 500 = .ok (.iload_n 3, 1) := by decide +kernel
theorem dL_law_501 : decode cL_law 501 = .ok (.iconst 1, 1) := by decide +kernel
theorem dL_law_502 : decode cL_law 502 = .ok (.iadd, 1) := by decide +kernel
theorem dL_law_503 : decode cL_law 503 = .ok (.iaload, 1) := by decide +kernel
theorem dL_law_504 : decode cL_law 504 = .ok (.aload_n 0, 1) := by decide +kernel
theorem dL_law_505 : decode cL_law 505 = .ok (.iload_n 3, 1) := by decide +kernel
theorem dL_law_506 : decode cL_law 506 = .ok (.iconst 2, 1) := by decide +kernel
theorem dL_law_507 : decode cL_law 507 = .ok (.iadd, 1) := by decide +kernel
theorem dL_law_508 : decode cL_law 508 = .ok (.iaload, 1) := by decide +kernel
theorem dL_law_509 : decode cL_law 509 = .ok (.invokevirtual 65, 3) := by decide +kernel
theorem dL_law_512 : decode cL_law 512 = .ok (.aload_n 2, 1) := by decide +kernel
theorem dL_law_513 : decode cL_law 513 = .ok (.aload_n 0, 1) := by decide +kernel
theorem dL_law_514 : decode cL_law 514 = .ok (.iload_n 3, 1) := by decide +kernel
theorem dL_law_515 : decode cL_law 515 = .ok (.iconst 1, 1) := by decide +kernel
theorem dL_law_516 : decode cL_law 516 = .ok (.iadd, 1) := by decide +kernel
theorem dL_law_517 : decode cL_law 517 = .ok (.iaload, 1) := by decide +kernel
theorem dL_law_518 : decode cL_law 518 = .ok (.aload_n 0, 1) := by decide +kernel
theorem dL_law_519 : decode cL_law 519 = .ok (.iload_n 3, 1) := by decide +kernel
theorem dL_law_520 : decode cL_law 520 = .ok (.iconst 2, 1) := by decide +kernel
theorem dL_law_521 : decode cL_law 521 = .ok (.iadd, 1) := by decide +kernel
theorem dL_law_522 : decode cL_law 522 = .ok (.iaload, 1) := by decide +kernel
theorem dL_law_523 : decode cL_law 523 = .ok (.invokevirtual 68, 3) := by decide +kernel
theorem dL_law_526 : decode cL_law 526 = .ok (.if_icmp .eq 411, 3) := by decide +kernel
theorem dL_law_529 : decode cL_law 529 = .ok (.iconst 0, 1) := by decide +kernel
theorem dL_law_530 : decode cL_law 530 = .ok (.ireturn, 1) := by decide +kernel
theorem dL_law_531 : decode cL_law 531 = .ok (.aload_n 1, 1) := by decide +kernel
theorem dL_law_532 : decode cL_law 532 = .ok (.aload_n 0, 1) := by decide +kernel
theorem dL_law_533 : decode cL_law 533 = .ok (.iload_n 3, 1) := by decide +kernel
theorem dL_law_534 : decode cL_law 534 = .ok (.iconst 1, 1) := by decide +kernel
theorem dL_law_535 : decode cL_law 535 = .ok (.iadd, 1) := by decide +kernel
theorem dL_law_536 : decode cL_law 536 = .ok (.iaload, 1) := by decide +kernel
theorem dL_law_537 : decode cL_law 537 = .ok (.invokevirtual 69, 3) := by decide +kernel
theorem dL_law_540 : decode cL_law 540 = .ok (.aload_n 2, 1) := by decide +kernel
theorem dL_law_541 : decode cL_law 541 = .ok (.aload_n 0, 1) := by decide +kernel
theorem dL_law_542 : decode cL_law 542 = .ok (.iload_n 3, 1) := by decide +kernel
theorem dL_law_543 : decode cL_law 543 = .ok (.iconst 1, 1) := by decide +kernel
theorem dL_law_544 : decode cL_law 544 = .ok (.iadd, 1) := by decide +kernel
theorem dL_law_545 : decode cL_law 545 = .ok (.iaload, 1) := by decide +kernel
theorem dL_law_546 : decode cL_law 546 = .ok (.invokevirtual 72, 3) := by decide +kernel
theorem dL_law_549 : decode cL_law 549 = .ok (.if_icmp .eq 388, 3) := by decide +kernel
theorem dL_law_552 : decode cL_law 552 = .ok (.iconst 0, 1) := by decide +kernel
theorem dL_law_553 : decode cL_law 553 = .ok (.ireturn, 1) := by decide +kernel
theorem dL_law_554 : decode cL_law 554 = .ok (.aload_n 1, 1) := by decide +kernel
theorem dL_law_555 : decode cL_law 555 = .ok (.invokevirtual 73, 3) := by decide +kernel
theorem dL_law_558 : decode cL_law 558 = .ok (.aload_n 2, 1) := by decide +kernel
theorem dL_law_559 : decode cL_law 559 = .ok (.invokevirtual 76, 3) := by decide +kernel
theorem dL_law_562 : decode cL_law 562 = .ok (.if_icmp .eq 375, 3) := by decide +kernel
theorem dL_law_565 : decode cL_law 565 = .ok (.iconst 0, 1) := by decide +kernel
theorem dL_law_566 : decode cL_law 566 = .ok (.ireturn, 1) := by decide +kernel
theorem dL_law_567 : decode cL_law 567 = .ok (.aload_n 1, 1) := by decide +kernel
theorem dL_law_568 : decode cL_law 568 = .ok (.aload_n 0, 1) := by decide +kernel
theorem dL_law_569 : decode cL_law 569 = .ok (.iload_n 3, 1) := by decide +kernel
theorem dL_law_570 : decode cL_law 570 = .ok (.iconst 1, 1) := by decide +kernel
theorem dL_law_571 : decode cL_law 571 = .ok (.iadd, 1) := by decide +kernel
theorem dL_law_572 : decode cL_law 572 = .ok (.iaload, 1) := by decide +kernel
theorem dL_law_573 : decode cL_law 573 = .ok (.aload_n 0, 1) := by decide +kernel
theorem dL_law_574 : decode cL_law 574 = .ok (.iload_n 3, 1) := by decide +kernel
theorem dL_law_575 : decode cL_law 575 = .ok (.iconst 2, 1) := by decide +kernel
theorem dL_law_576 : decode cL_law 576 = .ok (.iadd, 1) := by decide +kernel
theorem dL_law_577 : decode cL_law 577 = .ok (.iaload, 1) := by decide +kernel
theorem dL_law_578 : decode cL_law 578 = .ok (.aload_n 0, 1) := by decide +kernel
theorem dL_law_579 : decode cL_law 579 = .ok (.iload_n 3, 1) := by decide +kernel
theorem dL_law_580 : decode cL_law 580 = .ok (.iconst 3, 1) := by decide +kernel
theorem dL_law_581 : decode cL_law 581 = .ok (.iadd, 1) := by decide +kernel
theorem dL_law_582 : decode cL_law 582 = .ok (.iaload, 1) := by decide +kernel
theorem dL_law_583 : decode cL_law 583 = .ok (.invokevirtual 77, 3) := by decide +kernel
theorem dL_law_586 : decode cL_law 586 = .ok (.aload_n 2, 1) := by decide +kernel
theorem dL_law_587 : decode cL_law 587 = .ok (.aload_n 0, 1) := by decide +kernel
theorem dL_law_588 : decode cL_law 588 = .ok (.iload_n 3, 1) := by decide +kernel
theorem dL_law_589 : decode cL_law 589 = .ok (.iconst 1, 1) := by decide +kernel
theorem dL_law_590 : decode cL_law 590 = .ok (.iadd, 1) := by decide +kernel
theorem dL_law_591 : decode cL_law 591 = .ok (.iaload, 1) := by decide +kernel
theorem dL_law_592 : decode cL_law 592 = .ok (.aload_n 0, 1) := by decide +kernel
theorem dL_law_593 : decode cL_law 593 = .ok (.iload_n 3, 1) := by decide +kernel
theorem dL_law_594 : decode cL_law 594 = .ok (.iconst 2, 1) := by decide +kernel
theorem dL_law_595 : decode cL_law 595 = .ok (.iadd, 1) := by decide +kernel
theorem dL_law_596 : decode cL_law 596 = .ok (.iaload, 1) := by decide +kernel
theorem dL_law_597 : decode cL_law 597 = .ok (.aload_n 0, 1) := by decide +kernel
theorem dL_law_598 : decode cL_law 598 = .ok (.iload_n 3, 1) := by decide +kernel
theorem dL_law_599 : decode cL_law 599 = .ok (.iconst 3, 1) := by decide +kernel
theorem dL_law_600 : decode cL_law 600 = .ok (.iadd, 1) := by decide +kernel
theorem dL_law_601 : decode cL_law 601 = .ok (.iaload, 1) := by decide +kernel
theorem dL_law_602 : decode cL_law 602 = .ok (.invokevirtual 80, 3) := by decide +kernel
theorem dL_law_605 : decode cL_law 605 = .ok (.if_icmp .eq 332, 3) := by decide +kernel
theorem dL_law_608 : decode cL_law 608 = .ok (.iconst 0, 1) := by decide +kernel
theorem dL_law_609 : decode cL_law 609 = .ok (.ireturn, 1) := by decide +kernel
theorem dL_law_610 : decode cL_law 610 = .ok (.aload_n 1, 1) := by decide +kernel
theorem dL_law_611 : decode cL_law 611 = .ok (.aload_n 0, 1) := by decide +kernel
theorem dL_law_612 : decode cL_law 612 = .ok (.iload_n 3, 1) := by decide +kernel
theorem dL_law_613 : decode cL_law 613 = .ok (.iconst 1, 1) := by decide +kernel
theorem dL_law_614 : decode cL_law 614 = .ok (.iadd, 1) := by decide +kernel
theorem dL_law_615 : decode cL_law 615 = .ok (.iaload, 1) := by decide +kernel
theorem dL_law_616 : decode cL_law 616 = .ok (.aload_n 0, 1) := by decide +kernel
theorem dL_law_617 : decode cL_law 617 = .ok (.iload_n 3, 1) := by decide +kernel
theorem dL_law_618 : decode cL_law 618 = .ok (.iconst 2, 1) := by decide +kernel
theorem dL_law_619 : decode cL_law 619 = .ok (.iadd, 1) := by decide +kernel
theorem dL_law_620 : decode cL_law 620 = .ok (.iaload, 1) := by decide +kernel
theorem dL_law_621 : decode cL_law 621 = .ok (.aload_n 0, 1) := by decide +kernel
theorem dL_law_622 : decode cL_law 622 = .ok (.iload_n 3, 1) := by decide +kernel
theorem dL_law_623 : decode cL_law 623 = .ok (.iconst 3, 1) := by decide +kernel
theorem dL_law_624 : decode cL_law 624 = .ok (.iadd, 1) := by decide +kernel
theorem dL_law_625 : decode cL_law 625 = .ok (.iaload, 1) := by decide +kernel
theorem dL_law_626 : decode cL_law 626 = .ok (.ifCond .eq 7, 3) := by decide +kernel
theorem dL_law_629 : decode cL_law 629 = .ok (.iconst 1, 1) := by decide +kernel
theorem dL_law_630 : decode cL_law 630 = .ok (.goto 4, 3) := by decide +kernel
theorem dL_law_633 : decode cL_law 633 = .ok (.iconst 0, 1) := by decide +kernel
theorem dL_law_634 : decode cL_law 634 = .ok (.invokevirtual 81, 3) := by decide +kernel
theorem dL_law_637 : decode cL_law 637 = .ok (.aload_n 2, 1) := by decide +kernel
theorem dL_law_638 : decode cL_law 638 = .ok (.aload_n 0, 1) := by decide +kernel
theorem dL_law_639 : decode cL_law 639 = .ok (.iload_n 3, 1) := by decide +kernel
theorem dL_law_640 : decode cL_law 640 = .ok (.iconst 1, 1) := by decide +kernel
theorem dL_law_641 : decode cL_law 641 = .ok (.iadd, 1) := by decide +kernel
theorem dL_law_642 : decode cL_law 642 = .ok (.iaload, 1) := by decide +kernel
theorem dL_law_643 : decode cL_law 643 = .ok (.aload_n 0, 1) := by decide +kernel
theorem dL_law_644 : decode cL_law 644 = .ok (.iload_n 3, 1) := by decide +kernel
theorem dL_law_645 : decode cL_law 645 = .ok (.iconst 2, 1) := by decide +kernel
theorem dL_law_646 : decode cL_law 646 = .ok (.iadd, 1) := by decide +kernel
theorem dL_law_647 : decode cL_law 647 = .ok (.iaload, 1) := by decide +kernel
theorem dL_law_648 : decode cL_law 648 = .ok (.aload_n 0, 1) := by decide +kernel
theorem dL_law_649 : decode cL_law 649 = .ok (.iload_n 3, 1) := by decide +kernel
theorem dL_law_650 : decode cL_law 650 = .ok (.iconst 3, 1) := by decide +kernel
theorem dL_law_651 : decode cL_law 651 = .ok (.iadd, 1) := by decide +kernel
theorem dL_law_652 : decode cL_law 652 = .ok (.iaload, 1) := by decide +kernel
theorem dL_law_653 : decode cL_law 653 = .ok (.ifCond .eq 7, 3) := by decide +kernel
theorem dL_law_656 : decode cL_law 656 = .ok (.iconst 1, 1) := by decide +kernel
theorem dL_law_657 : decode cL_law 657 = .ok (.goto 4, 3) := by decide +kernel
theorem dL_law_660 : decode cL_law 660 = .ok (.iconst 0, 1) := by decide +kernel
theorem dL_law_661 : decode cL_law 661 = .ok (.invokevirtual 85, 3) := by decide +kernel
theorem dL_law_664 : decode cL_law 664 = .ok (.if_icmp .eq 273, 3) := by decide +kernel
theorem dL_law_667 : decode cL_law 667 = .ok (.iconst 0, 1) := by decide +kernel
theorem dL_law_668 : decode cL_law 668 = .ok (.ireturn, 1) := by decide +kernel
theorem dL_law_669 : decode cL_law 669 = .ok (.aload_n 1, 1) := by decide +kernel
theorem dL_law_670 : decode cL_law 670 = .ok (.invokevirtual 86, 3) := by decide +kernel
theorem dL_law_673 : decode cL_law 673 = .ok (.aload_n 2, 1) := by decide +kernel
theorem dL_law_674 : decode cL_law 674 = .ok (.invokevirtual 89, 3) := by decide +kernel
theorem dL_law_677 : decode cL_law 677 = .ok (.if_icmp .eq 260, 3) := by decide +kernel
theorem dL_law_680 : decode cL_law 680 = .ok (.iconst 0, 1) := by decide +kernel
theorem dL_law_681 : decode cL_law 681 = .ok (.ireturn, 1) := by decide +kernel
theorem dL_law_682 : decode cL_law 682 = .ok (.aload_n 1, 1) := by decide +kernel
theorem dL_law_683 : decode cL_law 683 = .ok (.aload_n 0, 1) := by decide +kernel
theorem dL_law_684 : decode cL_law 684 = .ok (.iload_n 3, 1) := by decide +kernel
theorem dL_law_685 : decode cL_law 685 = .ok (.iconst 1, 1) := by decide +kernel
theorem dL_law_686 : decode cL_law 686 = .ok (.iadd, 1) := by decide +kernel
theorem dL_law_687 : decode cL_law 687 = .ok (.iaload, 1) := by decide +kernel
theorem dL_law_688 : decode cL_law 688 = .ok (.invokevirtual 90, 3) := by decide +kernel
theorem dL_law_691 : decode cL_law 691 = .ok (.aload_n 2, 1) := by decide +kernel
theorem dL_law_692 : decode cL_law 692 = .ok (.aload_n 0, 1) := by decide +kernel
theorem dL_law_693 : decode cL_law 693 = .ok (.iload_n 3, 1) := by decide +kernel
theorem dL_law_694 : decode cL_law 694 = .ok (.iconst 1, 1) := by decide +kernel
theorem dL_law_695 : decode cL_law 695 = .ok (.iadd, 1) := by decide +kernel
theorem dL_law_696 : decode cL_law 696 = .ok (.iaload, 1) := by decide +kernel
theorem dL_law_697 : decode cL_law 697 = .ok (.invokevirtual 93, 3) := by decide +kernel
theorem dL_law_700 : decode cL_law 700 = .ok (.if_icmp .eq 237, 3) := by decide +kernel
theorem dL_law_703 : decode cL_law 703 = .ok (.iconst 0, 1) := by decide +kernel
theorem dL_law_704 : decode cL_law 704 = .ok (.ireturn, 1) := by decide +kernel
theorem dL_law_705 : decode cL_law 705 = .ok (.aload_n 1, 1) := by decide +kernel
theorem dL_law_706 : decode cL_law 706 = .ok (.aload_n 0, 1) := by decide +kernel
theorem dL_law_707 : decode cL_law 707 = .ok (.iload_n 3, 1) := by decide +kernel
theorem dL_law_708 : decode cL_law 708 = .ok (.iconst 1, 1) := by decide +kernel
theorem dL_law_709 : decode cL_law 709 = .ok (.iadd, 1) := by decide +kernel
theorem dL_law_710 : decode cL_law 710 = .ok (.iaload, 1) := by decide +kernel
theorem dL_law_711 : decode cL_law 711 = .ok (.invokevirtual 94, 3) := by decide +kernel
theorem dL_law_714 : decode cL_law 714 = .ok (.aload_n 2, 1) := by decide +kernel
theorem dL_law_715 : decode cL_law 715 = .ok (.aload_n 0, 1) := by decide +kernel
theorem dL_law_716 : decode cL_law 716 = .ok (.iload_n 3, 1) := by decide +kernel
theorem dL_law_717 : decode cL_law 717 = .ok (.iconst 1, 1) := by decide +kernel
theorem dL_law_718 : decode cL_law 718 = .ok (.iadd, 1) := by decide +kernel
theorem dL_law_719 : decode cL_law 719 = .ok (.iaload, 1) := by decide +kernel
theorem dL_law_720 : decode cL_law 720 = .ok (.invokevirtual 97, 3) := by decide +kernel
theorem dL_law_723 : decode cL_law 723 = .ok (.if_icmp .eq 214, 3) := by decide +kernel
theorem dL_law_726 : decode cL_law 726 = .ok (.iconst 0, 1) := by decide +kernel
theorem dL_law_727 : decode cL_law 727 = .ok (.ireturn, 1) := by decide +kernel
theorem dL_law_728 : decode cL_law 728 = .ok (.aload_n 1, 1) := by decide +kernel
theorem dL_law_729 : decode cL_law 729 = .ok (.aload_n 0, 1) := by decide +kernel
theorem dL_law_730 : decode cL_law 730 = .ok (.iload_n 3, 1) := by decide +kernel
theorem dL_law_731 : decode cL_law 731 = .ok (.iconst 1, 1) := by decide +kernel
theorem dL_law_732 : decode cL_law 732 = .ok (.iadd, 1) := by decide +kernel
theorem dL_law_733 : decode cL_law 733 = .ok (.iaload, 1) := by decide +kernel
theorem dL_law_734 : decode cL_law 734 = .ok (.aload_n 0, 1) := by decide +kernel
theorem dL_law_735 : decode cL_law 735 = .ok (.iload_n 3, 1) := by decide +kernel
theorem dL_law_736 : decode cL_law 736 = .ok (.iconst 2, 1) := by decide +kernel
theorem dL_law_737 : decode cL_law 737 = .ok (.iadd, 1) := by decide +kernel
theorem dL_law_738 : decode cL_law 738 = .ok (.iaload, 1) := by decide +kernel
theorem dL_law_739 : decode cL_law 739 = .ok (.invokevirtual 98, 3) := by decide +kernel
theorem dL_law_742 : decode cL_law 742 = .ok (.aload_n 2, 1) := by decide +kernel
theorem dL_law_743 : decode cL_law 743 = .ok (.aload_n 0, 1) := by decide +kernel
theorem dL_law_744 : decode cL_law 744 = .ok (.iload_n 3, 1) := by decide +kernel
theorem dL_law_745 : decode cL_law 745 = .ok (.iconst 1, 1) := by decide +kernel
theorem dL_law_746 : decode cL_law 746 = .ok (.iadd, 1) := by decide +kernel
theorem dL_law_747 : decode cL_law 747 = .ok (.iaload, 1) := by decide +kernel
theorem dL_law_748 : decode cL_law 748 = .ok (.aload_n 0, 1) := by decide +kernel
theorem dL_law_749 : decode cL_law 749 = .ok (.iload_n 3, 1) := by decide +kernel
theorem dL_law_750 : decode cL_law 750 = .ok (.iconst 2, 1) := by decide +kernel
theorem dL_law_751 : decode cL_law 751 = .ok (.iadd, 1) := by decide +kernel
theorem dL_law_752 : decode cL_law 752 = .ok (.iaload, 1) := by decide +kernel
theorem dL_law_753 : decode cL_law 753 = .ok (.invokevirtual 101, 3) := by decide +kernel
theorem dL_law_756 : decode cL_law 756 = .ok (.if_icmp .eq 181, 3) := by decide +kernel
theorem dL_law_759 : decode cL_law 759 = .ok (.iconst 0, 1) := by decide +kernel
theorem dL_law_760 : decode cL_law 760 = .ok (.ireturn, 1) := by decide +kernel
theorem dL_law_761 : decode cL_law 761 = .ok (.aload_n 1, 1) := by decide +kernel
theorem dL_law_762 : decode cL_law 762 = .ok (.aload_n 0, 1) := by decide +kernel
theorem dL_law_763 : decode cL_law 763 = .ok (.iload_n 3, 1) := by decide +kernel
theorem dL_law_764 : decode cL_law 764 = .ok (.iconst 1, 1) := by decide +kernel
theorem dL_law_765 : decode cL_law 765 = .ok (.iadd, 1) := by decide +kernel
theorem dL_law_766 : decode cL_law 766 = .ok (.iaload, 1) := by decide +kernel
theorem dL_law_767 : decode cL_law 767 = .ok (.aload_n 0, 1) := by decide +kernel
theorem dL_law_768 : decode cL_law 768 = .ok (.iload_n 3, 1) := by decide +kernel
theorem dL_law_769 : decode cL_law 769 = .ok (.iconst 2, 1) := by decide +kernel
theorem dL_law_770 : decode cL_law 770 = .ok (.iadd, 1) := by decide +kernel
theorem dL_law_771 : decode cL_law 771 = .ok (.iaload, 1) := by decide +kernel
theorem dL_law_772 : decode cL_law 772 = .ok (.aload_n 0, 1) := by decide +kernel
theorem dL_law_773 : decode cL_law 773 = .ok (.iload_n 3, 1) := by decide +kernel
theorem dL_law_774 : decode cL_law 774 = .ok (.iconst 3, 1) := by decide +kernel
theorem dL_law_775 : decode cL_law 775 = .ok (.iadd, 1) := by decide +kernel
theorem dL_law_776 : decode cL_law 776 = .ok (.iaload, 1) := by decide +kernel
theorem dL_law_777 : decode cL_law 777 = .ok (.aload_n 0, 1) := by decide +kernel
theorem dL_law_778 : decode cL_law 778 = .ok (.iload_n 3, 1) := by decide +kernel
theorem dL_law_779 : decode cL_law 779 = .ok (.iconst 4, 1) := by decide +kernel
theorem dL_law_780 : decode cL_law 780 = .ok (.iadd, 1) := by decide +kernel
theorem dL_law_781 : decode cL_law 781 = .ok (.iaload, 1) := by decide +kernel
theorem dL_law_782 : decode cL_law 782 = .ok (.aload_n 0, 1) := by decide +kernel
theorem dL_law_783 : decode cL_law 783 = .ok (.iload_n 3, 1) := by decide +kernel
theorem dL_law_784 : decode cL_law 784 = .ok (.iconst 5, 1) := by decide +kernel
theorem dL_law_785 : decode cL_law 785 = .ok (.iadd, 1) := by decide +kernel
theorem dL_law_786 : decode cL_law 786 = .ok (.iaload, 1) := by decide +kernel
theorem dL_law_787 : decode cL_law 787 = .ok (.invokevirtual 102, 3) := by decide +kernel
theorem dL_law_790 : decode cL_law 790 = .ok (.aload_n 2, 1) := by decide +kernel
theorem dL_law_791 : decode cL_law 791 = .ok (.aload_n 0, 1) := by decide +kernel
theorem dL_law_792 : decode cL_law 792 = .ok (.iload_n 3, 1) := by decide +kernel
theorem dL_law_793 : decode cL_law 793 = .ok (.iconst 1, 1) := by decide +kernel
theorem dL_law_794 : decode cL_law 794 = .ok (.iadd, 1) := by decide +kernel
theorem dL_law_795 : decode cL_law 795 = .ok (.iaload, 1) := by decide +kernel
theorem dL_law_796 : decode cL_law 796 = .ok (.aload_n 0, 1) := by decide +kernel
theorem dL_law_797 : decode cL_law 797 = .ok (.iload_n 3, 1) := by decide +kernel
theorem dL_law_798 : decode cL_law 798 = .ok (.iconst 2, 1) := by decide +kernel
theorem dL_law_799 : decode cL_law 799 = .ok (.iadd, 1) := by decide +kernel
theorem dL_law_800 : decode cL_law 800 = .ok (.iaload, 1) := by decide +kernel
theorem dL_law_801 : decode cL_law 801 = .ok (.aload_n 0, 1) := by decide +kernel
theorem dL_law_802 : decode cL_law 802 = .ok (.iload_n 3, 1) := by decide +kernel
theorem dL_law_803 : decode cL_law 803 = .ok (.iconst 3, 1) := by decide +kernel
theorem dL_law_804 : decode cL_law 804 = .ok (.iadd, 1) := by decide +kernel
theorem dL_law_805 : decode cL_law 805 = .ok (.iaload, 1) := by decide +kernel
theorem dL_law_806 : decode cL_law 806 = .ok (.aload_n 0, 1) := by decide +kernel
theorem dL_law_807 : decode cL_law 807 = .ok (.iload_n 3, 1) := by decide +kernel
theorem dL_law_808 : decode cL_law 808 = .ok (.iconst 4, 1) := by decide +kernel
theorem dL_law_809 : decode cL_law 809 = .ok (.iadd, 1) := by decide +kernel
theorem dL_law_810 : decode cL_law 810 = .ok (.iaload, 1) := by decide +kernel
theorem dL_law_811 : decode cL_law 811 = .ok (.aload_n 0, 1) := by decide +kernel
theorem dL_law_812 : decode cL_law 812 = .ok (.iload_n 3, 1) := by decide +kernel
theorem dL_law_813 : decode cL_law 813 = .ok (.iconst 5, 1) := by decide +kernel
theorem dL_law_814 : decode cL_law 814 = .ok (.iadd, 1) := by decide +kernel
theorem dL_law_815 : decode cL_law 815 = .ok (.iaload, 1) := by decide +kernel
theorem dL_law_816 : decode cL_law 816 = .ok (.invokevirtual 106, 3) := by decide +kernel
theorem dL_law_819 : decode cL_law 819 = .ok (.lcmp, 1) := by decide +kernel
theorem dL_law_820 : decode cL_law 820 = .ok (.ifCond .eq 117, 3) := by decide +kernel
theorem dL_law_823 : decode cL_law 823 = .ok (.iconst 0, 1) := by decide +kernel
theorem dL_law_824 : decode cL_law 824 = .ok (.ireturn, 1) := by decide +kernel
theorem dL_law_825 : decode cL_law 825 = .ok (.aload_n 1, 1) := by decide +kernel
theorem dL_law_826 : decode cL_law 826 = .ok (.aload_n 0, 1) := by decide +kernel
theorem dL_law_827 : decode cL_law 827 = .ok (.iload_n 3, 1) := by decide +kernel
theorem dL_law_828 : decode cL_law 828 = .ok (.iconst 1, 1) := by decide +kernel
theorem dL_law_829 : decode cL_law 829 = .ok (.iadd, 1) := by decide +kernel
theorem dL_law_830 : decode cL_law 830 = .ok (.iaload, 1) := by decide +kernel
theorem dL_law_831 : decode cL_law 831 = .ok (.aload_n 0, 1) := by decide +kernel
theorem dL_law_832 : decode cL_law 832 = .ok (.iload_n 3, 1) := by decide +kernel
theorem dL_law_833 : decode cL_law 833 = .ok (.iconst 2, 1) := by decide +kernel
theorem dL_law_834 : decode cL_law 834 = .ok (.iadd, 1) := by decide +kernel
theorem dL_law_835 : decode cL_law 835 = .ok (.iaload, 1) := by decide +kernel
theorem dL_law_836 : decode cL_law 836 = .ok (.aload_n 0, 1) := by decide +kernel
theorem dL_law_837 : decode cL_law 837 = .ok (.iload_n 3, 1) := by decide +kernel
theorem dL_law_838 : decode cL_law 838 = .ok (.iconst 3, 1) := by decide +kernel
theorem dL_law_839 : decode cL_law 839 = .ok (.iadd, 1) := by decide +kernel
theorem dL_law_840 : decode cL_law 840 = .ok (.iaload, 1) := by decide +kernel
theorem dL_law_841 : decode cL_law 841 = .ok (.invokevirtual 107, 3) := by decide +kernel
theorem dL_law_844 : decode cL_law 844 = .ok (.aload_n 2, 1) := by decide +kernel
theorem dL_law_845 : decode cL_law 845 = .ok (.aload_n 0, 1) := by decide +kernel
theorem dL_law_846 : decode cL_law 846 = .ok (.iload_n 3, 1) := by decide +kernel
theorem dL_law_847 : decode cL_law 847 = .ok (.iconst 1, 1) := by decide +kernel
theorem dL_law_848 : decode cL_law 848 = .ok (.iadd, 1) := by decide +kernel
theorem dL_law_849 : decode cL_law 849 = .ok (.iaload, 1) := by decide +kernel
theorem dL_law_850 : decode cL_law 850 = .ok (.aload_n 0, 1) := by decide +kernel
theorem dL_law_851 : decode cL_law 851 = .ok (.iload_n 3, 1) := by decide +kernel
theorem dL_law_852 : decode cL_law 852 = .ok (.iconst 2, 1) := by decide +kernel
theorem dL_law_853 : decode cL_law 853 = .ok (.iadd, 1) := by decide +kernel
theorem dL_law_854 : decode cL_law 854 = .ok (.iaload, 1) := by decide +kernel
theorem dL_law_855 : decode cL_law 855 = .ok (.aload_n 0, 1) := by decide +kernel
theorem dL_law_856 : decode cL_law 856 = .ok (.iload_n 3, 1) := by decide +kernel
theorem dL_law_857 : decode cL_law 857 = .ok (.iconst 3, 1) := by decide +kernel
theorem dL_law_858 : decode cL_law 858 = .ok (.iadd, 1) := by decide +kernel
theorem dL_law_859 : decode cL_law 859 = .ok (.iaload, 1) := by decide +kernel
theorem dL_law_860 : decode cL_law 860 = .ok (.invokevirtual 110, 3) := by decide +kernel
theorem dL_law_863 : decode cL_law 863 = .ok (.if_icmp .eq 74, 3) := by decide +kernel
theorem dL_law_866 : decode cL_law 866 = .ok (.iconst 0, 1) := by decide +kernel
theorem dL_law_867 : decode cL_law 867 = .ok (.ireturn, 1) := by decide +kernel
theorem dL_law_868 : decode cL_law 868 = .ok (.aload_n 1, 1) := by decide +kernel
theorem dL_law_869 : decode cL_law 869 = .ok (.aload_n 0, 1) := by decide +kernel
theorem dL_law_870 : decode cL_law 870 = .ok (.iload_n 3, 1) := by decide +kernel
theorem dL_law_871 : decode cL_law 871 = .ok (.iconst 1, 1) := by decide +kernel
theorem dL_law_872 : decode cL_law 872 = .ok (.iadd, 1) := by decide +kernel
theorem dL_law_873 : decode cL_law 873 = .ok (.iaload, 1) := by decide +kernel
theorem dL_law_874 : decode cL_law 874 = .ok (.invokevirtual 111, 3) := by decide +kernel
theorem dL_law_877 : decode cL_law 877 = .ok (.aload_n 2, 1) := by decide +kernel
theorem dL_law_878 : decode cL_law 878 = .ok (.aload_n 0, 1) := by decide +kernel
theorem dL_law_879 : decode cL_law 879 = .ok (.iload_n 3, 1) := by decide +kernel
theorem dL_law_880 : decode cL_law 880 = .ok (.iconst 1, 1) := by decide +kernel
theorem dL_law_881 : decode cL_law 881 = .ok (.iadd, 1) := by decide +kernel
theorem dL_law_882 : decode cL_law 882 = .ok (.iaload, 1) := by decide +kernel
theorem dL_law_883 : decode cL_law 883 = .ok (.invokevirtual 114, 3) := by decide +kernel
theorem dL_law_886 : decode cL_law 886 = .ok (.if_icmp .eq 51, 3) := by decide +kernel
theorem dL_law_889 : decode cL_law 889 = .ok (.iconst 0, 1) := by decide +kernel
theorem dL_law_890 : decode cL_law 890 = .ok (.ireturn, 1) := by decide +kernel
theorem dL_law_891 : decode cL_law 891 = .ok (.aload_n 1, 1) := by decide +kernel
theorem dL_law_892 : decode cL_law 892 = .ok (.aload_n 0, 1) := by decide +kernel
theorem dL_law_893 : decode cL_law 893 = .ok (.iload_n 3, 1) := by decide +kernel
theorem dL_law_894 : decode cL_law 894 = .ok (.iconst 1, 1) := by decide +kernel
theorem dL_law_895 : decode cL_law 895 = .ok (.iadd, 1) := by decide +kernel
theorem dL_law_896 : decode cL_law 896 = .ok (.iaload, 1) := by decide +kernel
theorem dL_law_897 : decode cL_law 897 = .ok (.invokevirtual 115, 3) := by decide +kernel
theorem dL_law_900 : decode cL_law 900 = .ok (.aload_n 2, 1) := by decide +kernel
theorem dL_law_901 : decode cL_law 901 = .ok (.aload_n 0, 1) := by decide +kernel
theorem dL_law_902 : decode cL_law 902 = .ok (.iload_n 3, 1) := by decide +kernel
theorem dL_law_903 : decode cL_law 903 = .ok (.iconst 1, 1) := by decide +kernel
theorem dL_law_904 : decode cL_law 904 = .ok (.iadd, 1) := by decide +kernel
theorem dL_law_905 : decode cL_law 905 = .ok (.iaload, 1) := by decide +kernel
theorem dL_law_906 : decode cL_law 906 = .ok (.invokevirtual 118, 3) := by decide +kernel
theorem dL_law_909 : decode cL_law 909 = .ok (.if_icmp .eq 28, 3) := by decide +kernel
theorem dL_law_912 : decode cL_law 912 = .ok (.iconst 0, 1) := by decide +kernel
theorem dL_law_913 : decode cL_law 913 = .ok (.ireturn, 1) := by decide +kernel
theorem dL_law_914 : decode cL_law 914 = .ok (.aload_n 1, 1) := by decide +kernel
theorem dL_law_915 : decode cL_law 915 = .ok (.aload_n 0, 1) := by decide +kernel
theorem dL_law_916 : decode cL_law 916 = .ok (.iload_n 3, 1) := by decide +kernel
theorem dL_law_917 : decode cL_law 917 = .ok (.iconst 1, 1) := by decide +kernel
theorem dL_law_918 : decode cL_law 918 = .ok (.iadd, 1) := by decide +kernel
theorem dL_law_919 : decode cL_law 919 = .ok (.iaload, 1) := by decide +kernel
theorem dL_law_920 : decode cL_law 920 = .ok (.invokevirtual 119, 3) := by decide +kernel
theorem dL_law_923 : decode cL_law 923 = .ok (.aload_n 2, 1) := by decide +kernel
theorem dL_law_924 : decode cL_law 924 = .ok (.aload_n 0, 1) := by decide +kernel
theorem dL_law_925 : decode cL_law 925 = .ok (.iload_n 3, 1) := by decide +kernel
theorem dL_law_926 : decode cL_law 926 = .ok (.iconst 1, 1) := by decide +kernel
theorem dL_law_927 : decode cL_law 927 = .ok (.iadd, 1) := by decide +kernel
theorem dL_law_928 : decode cL_law 928 = .ok (.iaload, 1) := by decide +kernel
theorem dL_law_929 : decode cL_law 929 = .ok (.invokevirtual 122, 3) := by decide +kernel
theorem dL_law_932 : decode cL_law 932 = .ok (.if_icmp .eq 5, 3) := by decide +kernel
theorem dL_law_935 : decode cL_law 935 = .ok (.iconst 0, 1) := by decide +kernel
theorem dL_law_936 : decode cL_law 936 = .ok (.ireturn, 1) := by decide +kernel
theorem dL_law_937 : decode cL_law 937 = .ok (.iinc 3 6, 3) := by decide +kernel
theorem dL_law_940 : decode cL_law 940 = .ok (.goto (-922), 3) := by decide +kernel
theorem dL_law_943 : decode cL_law 943 = .ok (.iconst 1, 1) := by decide +kernel
theorem dL_law_944 : decode cL_law 944 = .ok (.ireturn, 1) := by decide +kernel
