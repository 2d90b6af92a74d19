theorem dX9_init_0 : decode cX9_init 0 = .ok (.aload_n 0, 1) := by decide +kernel
theorem dX9_init_1 : decode cX9_init 1 = .ok (.invokespecial 1, 3) := by decide +kernel
theorem dX9_init_4 : decode cX9_init 4 = .ok (.aload_n 0, 1) := by decide +kernel
theorem dX9_init_5 : decode cX9_init 5 = .ok (.iconst 2, 1) := by decide +kernel
theorem dX9_init_6 : decode cX9_init 6 = .ok (.newarray .int, 2) := by decide +kernel
theorem dX9_init_8 : decode cX9_init 8 = .ok (.putfield 7, 3) := by decide +kernel
theorem dX9_init_11 : decode cX9_init 11 = .ok (.aload_n 0, 1) := by decide +kernel
theorem dX9_init_12 : decode cX9_init 12 = .ok (.bipush 62, 2) := by decide +kernel
theorem dX9_init_14 : decode cX9_init 14 = .ok (.newarray .int, 2) := by decide +kernel
theorem dX9_init_16 : decode cX9_init 16 = .ok (.putfield 13, 3) := by decide +kernel
theorem dX9_init_19 : decode cX9_init 19 = .ok (.aload_n 0, 1) := by decide +kernel
theorem dX9_init_20 : decode cX9_init 20 = .ok (.bipush 7, 2) := by decide +kernel
theorem dX9_init_22 : decode cX9_init 22 = .ok (.newarray .int, 2) := by decide +kernel
theorem dX9_init_24 : decode cX9_init 24 = .ok (.putfield 16, 3) := by decide +kernel
theorem dX9_init_27 : decode cX9_init 27 = .ok (.aload_n 0, 1) := by decide +kernel
theorem dX9_init_28 : decode cX9_init 28 = .ok (.bipush 7, 2) := by decide +kernel
theorem dX9_init_30 : decode cX9_init 30 = .ok (.newarray .int, 2) := by decide +kernel
theorem dX9_init_32 : decode cX9_init 32 = .ok (.putfield 19, 3) := by decide +kernel
theorem dX9_init_35 : decode cX9_init 35 = .ok (.aload_n 0, 1) := by decide +kernel
theorem dX9_init_36 : decode cX9_init 36 = .ok (.bipush 7, 2) := by decide +kernel
theorem dX9_init_38 : decode cX9_init 38 = .ok (.newarray .int, 2) := by decide +kernel
theorem dX9_init_40 : decode cX9_init 40 = .ok (.putfield 22, 3) := by decide +kernel
theorem dX9_init_43 : decode cX9_init 43 = .ok (.aload_n 0, 1) := by decide +kernel
theorem dX9_init_44 : decode cX9_init 44 = .ok (.bipush 9, 2) := by decide +kernel
theorem dX9_init_46 : decode cX9_init 46 = .ok (.newarray .int, 2) := by decide +kernel
theorem dX9_init_48 : decode cX9_init 48 = .ok (.putfield 25, 3) := by decide +kernel
theorem dX9_init_51 : decode cX9_init 51 = .ok (.aload_n 0, 1) := by decide +kernel
theorem dX9_init_52 : decode cX9_init 52 = .ok (.bipush 9, 2) := by decide +kernel
theorem dX9_init_54 : decode cX9_init 54 = .ok (.newarray .int, 2) := by decide +kernel
theorem dX9_init_56 : decode cX9_init 56 = .ok (.putfield 28, 3) := by decide +kernel
theorem dX9_init_59 : decode cX9_init 59 = .ok (.aload_n 0, 1) := by decide +kernel
theorem dX9_init_60 : decode cX9_init 60 = .ok (.bipush 9, 2) := by decide +kernel
theorem dX9_init_62 : decode cX9_init 62 = .ok (.newarray .int, 2) := by decide +kernel
theorem dX9_init_64 : decode cX9_init 64 = .ok (.putfield 31, 3) := by decide +kernel
theorem dX9_init_67 : decode cX9_init 67 = .ok (.aload_n 0, 1) := by decide +kernel
theorem dX9_init_68 : decode cX9_init 68 = .ok (.bipush 44, 2) := by decide +kernel
theorem dX9_init_70 : decode cX9_init 70 = .ok (.newarray .int, 2) := by decide +kernel
theorem dX9_init_72 : decode cX9_init 72 = .ok (.putfield 34, 3) := by decide +kernel
theorem dX9_init_75 : decode cX9_init 75 = .ok (.aload_n 0, 1) := by decide +kernel
theorem dX9_init_76 : decode cX9_init 76 = .ok (.bipush 44, 2) := by decide +kernel
theorem dX9_init_78 : decode cX9_init 78 = .ok (.newarray .int, 2) := by decide +kernel
theorem dX9_init_80 : decode cX9_init 80 = .ok (.putfield 37, 3) := by decide +kernel
theorem dX9_init_83 : decode cX9_init 83 = .ok (.aload_n 0, 1) := by decide +kernel
theorem dX9_init_84 : decode cX9_init 84 = .ok (.bipush 44, 2) := by decide +kernel
theorem dX9_init_86 : decode cX9_init 86 = .ok (.newarray .int, 2) := by decide +kernel
theorem dX9_init_88 : decode cX9_init 88 = .ok (.putfield 40, 3) := by decide +kernel
theorem dX9_init_91 : decode cX9_init 91 = .ok (.aload_n 0, 1) := by decide +kernel
theorem dX9_init_92 : decode cX9_init 92 = .ok (.bipush 11, 2) := by decide +kernel
theorem dX9_init_94 : decode cX9_init 94 = .ok (.newarray .int, 2) := by decide +kernel
theorem dX9_init_96 : decode cX9_init 96 = .ok (.putfield 43, 3) := by decide +kernel
theorem dX9_init_99 : decode cX9_init 99 = .ok (.aload_n 0, 1) := by decide +kernel
theorem dX9_init_100 : decode cX9_init 100 = .ok (.bipush 11, 2) := by decide +kernel
theorem dX9_init_102 : decode cX9_init 102 = .ok (.newarray .int, 2) := by decide +kernel
theorem dX9_init_104 : decode cX9_init 104 = .ok (.putfield 46, 3) := by decide +kernel
theorem dX9_init_107 : decode cX9_init 107 = .ok (.aload_n 0, 1) := by decide +kernel
theorem dX9_init_108 : decode cX9_init 108 = .ok (.bipush 6, 2) := by decide +kernel
theorem dX9_init_110 : decode cX9_init 110 = .ok (.newarray .int, 2) := by decide +kernel
theorem dX9_init_112 : decode cX9_init 112 = .ok (.putfield 49, 3) := by decide +kernel
theorem dX9_init_115 : decode cX9_init 115 = .ok (.aload_n 0, 1) := by decide +kernel
theorem dX9_init_116 : decode cX9_init 116 = .ok (.bipush 36, 2) := by decide +kernel
theorem dX9_init_118 : decode cX9_init 118 = .ok (.newarray .int, 2) := by decide +kernel
theorem dX9_init_120 : decode cX9_init 120 = .ok (.putfield 52, 3) := by decide +kernel
theorem dX9_init_123 : decode cX9_init 123 = .ok (.aload_n 0, 1) := by decide +kernel
theorem dX9_init_124 : decode cX9_init 124 = .ok (.bipush 36, 2) := by decide +kernel
theorem dX9_init_126 : decode cX9_init 126 = .ok (.newarray .int, 2) := by decide +kernel
theorem dX9_init_128 : decode cX9_init 128 = .ok (.putfield 55, 3) := by decide +kernel
theorem dX9_init_131 : decode cX9_init 131 = .ok (.aload_n 0, 1) := by decide +kernel
theorem dX9_init_132 : decode cX9_init 132 = .ok (.bipush 64, 2) := by decide +kernel
theorem dX9_init_134 : decode cX9_init 134 = .ok (.newarray .boolean, 2) := by decide +kernel
theorem dX9_init_136 : decode cX9_init 136 = .ok (.putfield 58, 3) := by decide +kernel
theorem dX9_init_139 : decode cX9_init 139 = .ok (.aload_n 0, 1) := by decide +kernel
theorem dX9_init_140 : decode cX9_init 140 = .ok (.bipush 64, 2) := by decide +kernel
theorem dX9_init_142 : decode cX9_init 142 = .ok (.newarray .boolean, 2) := by decide +kernel
theorem dX9_init_144 : decode cX9_init 144 = .ok (.putfield 62, 3) := by decide +kernel
theorem dX9_init_147 : decode cX9_init 147 = .ok (.aload_n 0, 1) := by decide +kernel
theorem dX9_init_148 : decode cX9_init 148 = .ok (.iconst 3, 1) := by decide +kernel
theorem dX9_init_149 : decode cX9_init 149 = .ok (.newarray .int, 2) := by decide +kernel
theorem dX9_init_151 : decode cX9_init 151 = .ok (.putfield 65, 3) := by decide +kernel
theorem dX9_init_154 : decode cX9_init 154 = .ok (.aload_n 0, 1) := by decide +kernel
theorem dX9_init_155 : decode cX9_init 155 = .ok (.bipush 8, 2) := by decide +kernel
theorem dX9_init_157 : decode cX9_init 157 = .ok (.newarray .int, 2) := by decide +kernel
theorem dX9_init_159 : decode cX9_init 159 = .ok (.putfield 68, 3) := by decide +kernel
theorem dX9_init_162 : decode cX9_init 162 = .ok (.aload_n 0, 1) := by decide +kernel
theorem dX9_init_163 : decode cX9_init 163 = .ok (.bipush 8, 2) := by decide +kernel
theorem dX9_init_165 : decode cX9_init 165 = .ok (.newarray .int, 2) := by decide +kernel
theorem dX9_init_167 : decode cX9_init 167 = .ok (.putfield 71, 3) := by decide +kernel
theorem dX9_init_170 : decode cX9_init 170 = .ok (.aload_n 0, 1) := by decide +kernel
theorem dX9_init_171 : decode cX9_init 171 = .ok (.bipush 8, 2) := by decide +kernel
theorem dX9_init_173 : decode cX9_init 173 = .ok (.newarray .int, 2) := by decide +kernel
theorem dX9_init_175 : decode cX9_init 175 = .ok (.putfield 74, 3) := by decide +kernel
theorem dX9_init_178 : decode cX9_init 178 = .ok (.aload_n 0, 1) := by decide +kernel
theorem dX9_init_179 : decode cX9_init 179 = .ok (.bipush 8, 2) := by decide +kernel
theorem dX9_init_181 : decode cX9_init 181 = .ok (.newarray .int, 2) := by decide +kernel
theorem dX9_init_183 : decode cX9_init 183 = .ok (.putfield 77, 3) := by decide +kernel
theorem dX9_init_186 : decode cX9_init 186 = .ok (.aload_n 0, 1) := by decide +kernel
theorem dX9_init_187 : decode cX9_init 187 = .ok (.iconst 4, 1) := by decide +kernel
theorem dX9_init_188 : decode cX9_init 188 = .ok (.newarray .boolean, 2) := by decide +kernel
theorem dX9_init_190 : decode cX9_init 190 = .ok (.putfield 80, 3) := by decide +kernel
theorem dX9_init_193 : decode cX9_init 193 = .ok (.aload_n 0, 1) := by decide +kernel
theorem dX9_init_194 : decode cX9_init 194 = .ok (.iconst 4, 1) := by decide +kernel
theorem dX9_init_195 : decode cX9_init 195 = .ok (.newarray .int, 2) := by decide +kernel
theorem dX9_init_197 : decode cX9_init 197 = .ok (.putfield 83, 3) := by decide +kernel
theorem dX9_init_200 : decode cX9_init 200 = .ok (.aload_n 0, 1) := by decide +kernel
theorem dX9_init_201 : decode cX9_init 201 = .ok (.iconst 4, 1) := by decide +kernel
theorem dX9_init_202 : decode cX9_init 202 = .ok (.newarray .int, 2) := by decide +kernel
theorem dX9_init_204 : decode cX9_init 204 = .ok (.putfield 86, 3) := by decide +kernel
theorem dX9_init_207 : decode cX9_init 207 = .ok (.aload_n 0, 1) := by decide +kernel
theorem dX9_init_208 : decode cX9_init 208 = .ok (.sipush 240, 3) := by decide +kernel
theorem dX9_init_211 : decode cX9_init 211 = .ok (.newarray .int, 2) := by decide +kernel
theorem dX9_init_213 : decode cX9_init 213 = .ok (.putfield 89, 3) := by decide +kernel
theorem dX9_init_216 : decode cX9_init 216 = .ok (.aload_n 0, 1) := by decide +kernel
theorem dX9_init_217 : decode cX9_init 217 = .ok (.bipush 60, 2) := by decide +kernel
theorem dX9_init_219 : decode cX9_init 219 = .ok (.newarray .int, 2) := by decide +kernel
theorem dX9_init_221 : decode cX9_init 221 = .ok (.putfield 92, 3) := by decide +kernel
theorem dX9_init_224 : decode cX9_init 224 = .ok (.return_, 1) := by decide +kernel
theorem dX9_in_0 : decode cX9_in 0 = .ok (.iload_n 0, 1) := by decide +kernel
theorem dX9_in_1 : decode cX9_in 1 = .ok (.iload_n 1, 1) := by decide +kernel
theorem dX9_in_2 : decode cX9_in 2 = .ok (.if_icmp .lt 12, 3) := by decide +kernel
theorem dX9_in_5 : decode cX9_in 5 = .ok (.iload_n 0, 1) := by decide +kernel
theorem dX9_in_6 : decode cX9_in 6 = .ok (.iload_n 2, 1) := by decide +kernel
theorem dX9_in_7 : decode cX9_in 7 = .ok (.if_icmp .gt 7, 3) := by decide +kernel
theorem dX9_in_10 : decode cX9_in 10 = .ok (.iconst 1, 1) := by decide +kernel
theorem dX9_in_11 : decode cX9_in 11 = .ok (.goto 4, 3) := by decide +kernel
theorem dX9_in_14 : decode cX9_in 14 = .ok (.iconst 0, 1) := by decide +kernel
theorem dX9_in_15 : decode cX9_in 15 = .ok (.ireturn, 1) := by decide +kernel
theorem dX9_isIn_0 : decode cX9_isIn 0 = .ok (.iload_n 0, 1) := by decide +kernel
theorem dX9_isIn_1 : decode cX9_isIn 1 = .ok (.iload_n 1, 1) := by decide +kernel
theorem dX9_isIn_2 : decode cX9_isIn 2 = .ok (.ishr, 1) := by decide +kernel
theorem dX9_isIn_3 : decode cX9_isIn 3 = .ok (.iconst 1, 1) := by decide +kernel
theorem dX9_isIn_4 : decode cX9_isIn 4 = .ok (.iand, 1) := by decide +kernel
theorem dX9_isIn_5 : decode cX9_isIn 5 = .ok (.iconst 1, 1) := by decide +kernel
theorem dX9_isIn_6 : decode cX9_isIn 6 = .ok (.if_icmp .ne 7, 3) := by decide +kernel
theorem dX9_isIn_9 : decode cX9_isIn 9 = .ok (.iconst 1, 1) := by decide +kernel
theorem dX9_isIn_10 : decode cX9_isIn 10 = .ok (.goto 4, 3) := by decide +kernel
theorem dX9_isIn_13 : decode cX9_isIn 13 = .ok (.iconst 0, 1) := by decide +kernel
theorem dX9_isIn_14 : decode cX9_isIn 14 = .ok (.ireturn, 1) := by decide +kernel
theorem dX9_ones_0 : decode cX9_ones 0 = .ok (.iconst 0, 1) := by decide +kernel
theorem dX9_ones_1 : decode cX9_ones 1 = .ok (.istore_n 1, 1) := by decide +kernel
theorem dX9_ones_2 : decode cX9_ones 2 = .ok (.iconst 0, 1) := by decide +kernel
theorem dX9_ones_3 : decode cX9_ones 3 = .ok (.istore_n 2, 1) := by decide +kernel
theorem dX9_ones_4 : decode cX9_ones 4 = .ok (.iload_n 2, 1) := by decide +kernel
theorem dX9_ones_5 : decode cX9_ones 5 = .ok (.bipush 24, 2) := by decide +kernel
theorem dX9_ones_7 : decode cX9_ones 7 = .ok (.if_icmp .ge 17, 3) := by decide +kernel
theorem dX9_ones_10 : decode cX9_ones 10 = .ok (.iload_n 1, 1) := by decide +kernel
theorem dX9_ones_11 : decode cX9_ones 11 = .ok (.iload_n 0, 1) := by decide +kernel
theorem dX9_ones_12 : decode cX9_ones 12 = .ok (.iload_n 2, 1) := by decide +kernel
theorem dX9_ones_13 : decode cX9_ones 13 = .ok (.ishr, 1) := by decide +kernel
theorem dX9_ones_14 : decode cX9_ones 14 = .ok (.iconst 1, 1) := by decide +kernel
theorem dX9_ones_15 : decode cX9_ones 15 = .ok (.iand, 1) := by decide +kernel
theorem dX9_ones_16 : decode cX9_ones 16 = .ok (.iadd, 1) := by decide +kernel
theorem dX9_ones_17 : decode cX9_ones 17 = .ok (.istore_n 1, 1) := by decide +kernel
theorem dX9_ones_18 : decode cX9_ones 18 = .ok (.iinc 2 1, 3) := by decide +kernel
theorem dX9_ones_21 : decode cX9_ones 21 = .ok (.goto (-17), 3) := by decide +kernel
theorem dX9_ones_24 : decode cX9_ones 24 = .ok (.iload_n 1, 1) := by decide +kernel
theorem dX9_ones_25 : decode cX9_ones 25 = .ok (.ireturn, 1) := by decide +kernel
theorem dX9_no_0 : decode cX9_no 0 = .ok (.ldc2_w 95, 3) := by decide +kernel
theorem dX9_no_3 : decode cX9_no 3 = .ok (.iload_n 0, 1) := by decide +kernel
theorem dX9_no_4 : decode cX9_no 4 = .ok (.i2l, 1) := by decide +kernel
theorem dX9_no_5 : decode cX9_no 5 = .ok (.lsub, 1) := by decide +kernel
theorem dX9_no_6 : decode cX9_no 6 = .ok (.lreturn, 1) := by decide +kernel
theorem dX9_lowest_0 : decode cX9_lowest 0 = .ok (.lload_n 0, 1) := by decide +kernel
theorem dX9_lowest_1 : decode cX9_lowest 1 = .ok (.lstore 5, 2) := by decide +kernel
theorem dX9_lowest_3 : decode cX9_lowest 3 = .ok (.lload_n 2, 1) := by decide +kernel
theorem dX9_lowest_4 : decode cX9_lowest 4 = .ok (.lstore 7, 2) := by decide +kernel
theorem dX9_lowest_6 : decode cX9_lowest 6 = .ok (.lload 7, 2) := by decide +kernel
theorem dX9_lowest_8 : decode cX9_lowest 8 = .ok (.lconst 0, 1) := by decide +kernel
theorem dX9_lowest_9 : decode cX9_lowest 9 = .ok (.lcmp, 1) := by decide +kernel
theorem dX9_lowest_10 : decode cX9_lowest 10 = .ok (.ifCond .eq 21, 3) := by decide +kernel
theorem dX9_lowest_13 : decode cX9_lowest 13 = .ok (.lload 5, 2) := by decide +kernel
theorem dX9_lowest_15 : decode cX9_lowest 15 = .ok (.lload 7, 2) := by decide +kernel
theorem dX9_lowest_17 : decode cX9_lowest 17 = .ok (.lrem, 1) := by decide +kernel
theorem dX9_lowest_18 : decode cX9_lowest 18 = .ok (.lstore 9, 2) := by decide +kernel
theorem dX9_lowest_20 : decode cX9_lowest 20 = .ok (.lload 7, 2) := by decide +kernel
theorem dX9_lowest_22 : decode cX9_lowest 22 = .ok (.lstore 5, 2) := by decide +kernel
theorem dX9_lowest_24 : decode cX9_lowest 24 = .ok (.lload 9, 2) := by decide +kernel
theorem dX9_lowest_26 : decode cX9_lowest 26 = .ok (.lstore 7, 2) := by decide +kernel
theorem dX9_lowest_28 : decode cX9_lowest 28 = .ok (.goto (-22), 3) := by decide +kernel
theorem dX9_lowest_31 : decode cX9_lowest 31 = .ok (.iload 4, 2) := by decide +kernel
theorem dX9_lowest_33 : decode cX9_lowest 33 = .ok (.ifCond .ne 10, 3) := by decide +kernel
theorem dX9_lowest_36 : decode cX9_lowest 36 = .ok (.lload_n 0, 1) := by decide +kernel
theorem dX9_lowest_37 : decode cX9_lowest 37 = .ok (.lload 5, 2) := by decide +kernel
theorem dX9_lowest_39 : decode cX9_lowest 39 = .ok (.ldiv, 1) := by decide +kernel
theorem dX9_lowest_40 : decode cX9_lowest 40 = .ok (.goto 7, 3) := by decide +kernel
theorem dX9_lowest_43 : decode cX9_lowest 43 = .ok (.lload_n 2, 1) := by decide +kernel
theorem dX9_lowest_44 : decode cX9_lowest 44 = .ok (.lload 5, 2) := by decide +kernel
theorem dX9_lowest_46 : decode cX9_lowest 46 = .ok (.ldiv, 1) := by decide +kernel
theorem dX9_lowest_47 : decode cX9_lowest 47 = .ok (.lreturn, 1) := by decide +kernel
theorem dX9_isText_0 : decode cX9_isText 0 = .ok (.iload_n 0, 1) := by decide +kernel
theorem dX9_isText_1 : decode cX9_isText 1 = .ok (.iconst 0, 1) := by decide +kernel
theorem dX9_isText_2 : decode cX9_isText 2 = .ok (.iconst 1, 1) := by decide +kernel
theorem dX9_isText_3 : decode cX9_isText 3 = .ok (.invokestatic 97, 3) := by decide +kernel
theorem dX9_isText_6 : decode cX9_isText 6 = .ok (.ireturn, 1) := by decide +kernel
theorem dX9_isHour_0 : decode cX9_isHour 0 = .ok (.iload_n 0, 1) := by decide +kernel
theorem dX9_isHour_1 : decode cX9_isHour 1 = .ok (.iconst 0, 1) := by decide +kernel
theorem dX9_isHour_2 : decode cX9_isHour 2 = .ok (.bipush 23, 2) := by decide +kernel
theorem dX9_isHour_4 : decode cX9_isHour 4 = .ok (.invokestatic 97, 3) := by decide +kernel
theorem dX9_isHour_7 : decode cX9_isHour 7 = .ok (.ireturn, 1) := by decide +kernel
theorem dX9_isSix_0 : decode cX9_isSix 0 = .ok (.iload_n 0, 1) := by decide +kernel
theorem dX9_isSix_1 : decode cX9_isSix 1 = .ok (.iconst 0, 1) := by decide +kernel
theorem dX9_isSix_2 : decode cX9_isSix 2 = .ok (.iconst 5, 1) := by decide +kernel
theorem dX9_isSix_3 : decode cX9_isSix 3 = .ok (.invokestatic 97, 3) := by decide +kernel
theorem dX9_isSix_6 : decode cX9_isSix 6 = .ok (.ireturn, 1) := by decide +kernel
theorem dX9_isEight_0 : decode cX9_isEight 0 = .ok (.iload_n 0, 1) := by decide +kernel
theorem dX9_isEight_1 : decode cX9_isEight 1 = .ok (.iconst 0, 1) := by decide +kernel
theorem dX9_isEight_2 : decode cX9_isEight 2 = .ok (.bipush 7, 2) := by decide +kernel
theorem dX9_isEight_4 : decode cX9_isEight 4 = .ok (.invokestatic 97, 3) := by decide +kernel
theorem dX9_isEight_7 : decode cX9_isEight 7 = .ok (.ireturn, 1) := by decide +kernel
theorem dX9_type_0 : decode cX9_type 0 = .ok (.iload_n 1, 1) := by decide +kernel
theorem dX9_type_1 : decode cX9_type 1 = .ok (.invokestatic 101, 3) := by decide +kernel
theorem dX9_type_4 : decode cX9_type 4 = .ok (.ifCond .eq 14, 3) := by decide +kernel
theorem dX9_type_7 : decode cX9_type 7 = .ok (.iload_n 2, 1) := by decide +kernel
theorem dX9_type_8 : decode cX9_type 8 = .ok (.iconst 0, 1) := by decide +kernel
theorem dX9_type_9 : decode cX9_type 9 = .ok (.sipush 255, 3) := by decide +kernel
theorem dX9_type_12 : decode cX9_type 12 = .ok (.invokestatic 97, 3) := by decide +kernel
theorem dX9_type_15 : decode cX9_type 15 = .ok (.ifCond .ne 6, 3) := by decide +kernel
theorem dX9_type_18 : decode cX9_type 18 = .ok (.bipush (-2), 2) := by decide +kernel
theorem dX9_type_20 : decode cX9_type 20 = .ok (.ireturn, 1) := by decide +kernel
theorem dX9_type_21 : decode cX9_type 21 = .ok (.aload_n 0, 1) := by decide +kernel
theorem dX9_type_22 : decode cX9_type 22 = .ok (.getfield 7, 3) := by decide +kernel
theorem dX9_type_25 : decode cX9_type 25 = .ok (.iload_n 1, 1) := by decide +kernel
theorem dX9_type_26 : decode cX9_type 26 = .ok (.iaload, 1) := by decide +kernel
theorem dX9_type_27 : decode cX9_type 27 = .ok (.iload_n 1, 1) := by decide +kernel
theorem dX9_type_28 : decode cX9_type 28 = .ok (.ifCond .ne 8, 3) := by decide +kernel
theorem dX9_type_31 : decode cX9_type 31 = .ok (.bipush 23, 2) := by decide +kernel
theorem dX9_type_33 : decode cX9_type 33 = .ok (.goto 5, 3) := by decide +kernel
theorem dX9_type_36 : decode cX9_type 36 = .ok (.bipush 31, 2) := by decide +kernel
theorem dX9_type_38 : decode cX9_type 38 = .ok (.if_icmp .ne 6, 3) := by decide +kernel
theorem dX9_type_41 : decode cX9_type 41 = .ok (.bipush (-4), 2) := by decide +kernel
theorem dX9_type_43 : decode cX9_type 43 = .ok (.ireturn, 1) := by decide +kernel
theorem dX9_type_44 : decode cX9_type 44 = .ok (.aload_n 0, 1) := by decide +kernel
theorem dX9_type_45 : decode cX9_type 45 = .ok (.getfield 13, 3) := by decide +kernel
theorem dX9_type_48 : decode cX9_type 48 = .ok (.bipush 31, 2) := by decide +kernel
theorem dX9_type_50 : decode cX9_type 50 = .ok (.iload_n 1, 1) := by decide +kernel
theorem dX9_type_51 : decode cX9_type 51 = .ok (.imul, 1) := by decide +kernel
theorem dX9_type_52 : decode cX9_type 52 = .ok (.aload_n 0, 1) := by decide +kernel
theorem dX9_type_53 : decode cX9_type 53 = .ok (.getfield 7, 3) := by decide +kernel
theorem dX9_type_56 : decode cX9_type 56 = .ok (.iload_n 1, 1) := by decide +kernel
theorem dX9_type_57 : decode cX9_type 57 = .ok (.iaload, 1) := by decide +kernel
theorem dX9_type_58 : decode cX9_type 58 = .ok (.iadd, 1) := by decide +kernel
theorem dX9_type_59 : decode cX9_type 59 = .ok (.iload_n 2, 1) := by decide +kernel
theorem dX9_type_60 : decode cX9_type 60 = .ok (.iastore, 1) := by decide +kernel
theorem dX9_type_61 : decode cX9_type 61 = .ok (.aload_n 0, 1) := by decide +kernel
theorem dX9_type_62 : decode cX9_type 62 = .ok (.getfield 7, 3) := by decide +kernel
theorem dX9_type_65 : decode cX9_type 65 = .ok (.iload_n 1, 1) := by decide +kernel
theorem dX9_type_66 : decode cX9_type 66 = .ok (.dup2, 1) := by decide +kernel
theorem dX9_type_67 : decode cX9_type 67 = .ok (.iaload, 1) := by decide +kernel
theorem dX9_type_68 : decode cX9_type 68 = .ok (.iconst 1, 1) := by decide +kernel
theorem dX9_type_69 : decode cX9_type 69 = .ok (.iadd, 1) := by decide +kernel
theorem dX9_type_70 : decode cX9_type 70 = .ok (.iastore, 1) := by decide +kernel
theorem dX9_type_71 : decode cX9_type 71 = .ok (.aload_n 0, 1) := by decide +kernel
theorem dX9_type_72 : decode cX9_type 72 = .ok (.getfield 7, 3) := by decide +kernel
theorem dX9_type_75 : decode cX9_type 75 = .ok (.iload_n 1, 1) := by decide +kernel
theorem dX9_type_76 : decode cX9_type 76 = .ok (.iaload, 1) := by decide +kernel
theorem dX9_type_77 : decode cX9_type 77 = .ok (.ireturn, 1) := by decide +kernel
theorem dX9_wipe_0 : decode cX9_wipe 0 = .ok (.iload_n 1, 1) := by decide +kernel
theorem dX9_wipe_1 : decode cX9_wipe 1 = .ok (.invokestatic 101, 3) := by decide +kernel
theorem dX9_wipe_4 : decode cX9_wipe 4 = .ok (.ifCond .ne 6, 3) := by decide +kernel
theorem dX9_wipe_7 : decode cX9_wipe 7 = .ok (.bipush (-2), 2) := by decide +kernel
theorem dX9_wipe_9 : decode cX9_wipe 9 = .ok (.ireturn, 1) := by decide +kernel
theorem dX9_wipe_10 : decode cX9_wipe 10 = .ok (.aload_n 0, 1) := by decide +kernel
theorem dX9_wipe_11 : decode cX9_wipe 11 = .ok (.getfield 7, 3) := by decide +kernel
theorem dX9_wipe_14 : decode cX9_wipe 14 = .ok (.iload_n 1, 1) := by decide +kernel
theorem dX9_wipe_15 : decode cX9_wipe 15 = .ok (.iaload, 1) := by decide +kernel
theorem dX9_wipe_16 : decode cX9_wipe 16 = .ok (.istore_n 2, 1) := by decide +kernel
theorem dX9_wipe_17 : decode cX9_wipe 17 = .ok (.aload_n 0, 1) := by decide +kernel
theorem dX9_wipe_18 : decode cX9_wipe 18 = .ok (.getfield 7, 3) := by decide +kernel
theorem dX9_wipe_21 : decode cX9_wipe 21 = .ok (.iload_n 1, 1) := by decide +kernel
theorem dX9_wipe_22 : decode cX9_wipe 22 = .ok (.iconst 0, 1) := by decide +kernel
theorem dX9_wipe_23 : decode cX9_wipe 23 = .ok (.iastore, 1) := by decide +kernel
theorem dX9_wipe_24 : decode cX9_wipe 24 = .ok (.iload_n 2, 1) := by decide +kernel
theorem dX9_wipe_25 : decode cX9_wipe 25 = .ok (.ireturn, 1) := by decide +kernel
theorem dX9_undo_0 : decode cX9_undo 0 = .ok (.iload_n 1, 1) := by decide +kernel
theorem dX9_undo_1 : decode cX9_undo 1 = .ok (.invokestatic 101, 3) := by decide +kernel
theorem dX9_undo_4 : decode cX9_undo 4 = .ok (.ifCond .ne 6, 3) := by decide +kernel
theorem dX9_undo_7 : decode cX9_undo 7 = .ok (.bipush (-2), 2) := by decide +kernel
theorem dX9_undo_9 : decode cX9_undo 9 = .ok (.ireturn, 1) := by decide +kernel
theorem dX9_undo_10 : decode cX9_undo 10 = .ok (.aload_n 0, 1) := by decide +kernel
theorem dX9_undo_11 : decode cX9_undo 11 = .ok (.getfield 7, 3) := by decide +kernel
theorem dX9_undo_14 : decode cX9_undo 14 = .ok (.iload_n 1, 1) := by decide +kernel
theorem dX9_undo_15 : decode cX9_undo 15 = .ok (.iaload, 1) := by decide +kernel
theorem dX9_undo_16 : decode cX9_undo 16 = .ok (.ifCond .ne 6, 3) := by decide +kernel
theorem dX9_undo_19 : decode cX9_undo 19 = .ok (.bipush (-3), 2) := by decide +kernel
theorem dX9_undo_21 : decode cX9_undo 21 = .ok (.ireturn, 1) := by decide +kernel
theorem dX9_undo_22 : decode cX9_undo 22 = .ok (.aload_n 0, 1) := by decide +kernel
theorem dX9_undo_23 : decode cX9_undo 23 = .ok (.getfield 7, 3) := by decide +kernel
theorem dX9_undo_26 : decode cX9_undo 26 = .ok (.iload_n 1, 1) := by decide +kernel
theorem dX9_undo_27 : decode cX9_undo 27 = .ok (.dup2, 1) := by decide +kernel
theorem dX9_undo_28 : decode cX9_undo 28 = .ok (.iaload, 1) := by decide +kernel
theorem dX9_undo_29 : decode cX9_undo 29 = .ok (.iconst 1, 1) := by decide +kernel
theorem dX9_undo_30 : decode cX9_undo 30 = .ok (.isub, 1) := by decide +kernel
theorem dX9_undo_31 : decode cX9_undo 31 = .ok (.iastore, 1) := by decide +kernel
theorem dX9_undo_32 : decode cX9_undo 32 = .ok (.aload_n 0, 1) := by decide +kernel
theorem dX9_undo_33 : decode cX9_undo 33 = .ok (.getfield 7, 3) := by decide +kernel
theorem dX9_undo_36 : decode cX9_undo 36 = .ok (.iload_n 1, 1) := by decide +kernel
theorem dX9_undo_37 : decode cX9_undo 37 = .ok (.iaload, 1) := by decide +kernel
theorem dX9_undo_38 : decode cX9_undo 38 = .ok (.ireturn, 1) := by decide +kernel
theorem dX9_byteAt_0 : decode cX9_byteAt 0 = .ok (.iload_n 2, 1) := by decide +kernel
theorem dX9_byteAt_1 : decode cX9_byteAt 1 = .ok (.aload_n 0, 1) := by decide +kernel
theorem dX9_byteAt_2 : decode cX9_byteAt 2 = .ok (.getfield 7, 3) := by decide +kernel
theorem dX9_byteAt_5 : decode cX9_byteAt 5 = .ok (.iload_n 1, 1) := by decide +kernel
theorem dX9_byteAt_6 : decode cX9_byteAt 6 = .ok (.iaload, 1) := by decide +kernel
theorem dX9_byteAt_7 : decode cX9_byteAt 7 = .ok (.if_icmp .ge 17, 3) := by decide +kernel
theorem dX9_byteAt_10 : decode cX9_byteAt 10 = .ok (.aload_n 0, 1) := by decide +kernel
theorem dX9_byteAt_11 : decode cX9_byteAt 11 = .ok (.getfield 13, 3) := by decide +kernel
theorem dX9_byteAt_14 : decode cX9_byteAt 14 = .ok (.bipush 31, 2) := by decide +kernel
theorem dX9_byteAt_16 : decode cX9_byteAt 16 = .ok (.iload_n 1, 1) := by decide +kernel
theorem dX9_byteAt_17 : decode cX9_byteAt 17 = .ok (.imul, 1) := by decide +kernel
theorem dX9_byteAt_18 : decode cX9_byteAt 18 = .ok (.iload_n 2, 1) := by decide +kernel
theorem dX9_byteAt_19 : decode cX9_byteAt 19 = .ok (.iadd, 1) := by decide +kernel
theorem dX9_byteAt_20 : decode cX9_byteAt 20 = .ok (.iaload, 1) := by decide +kernel
theorem dX9_byteAt_21 : decode cX9_byteAt 21 = .ok (.goto 4, 3) := by decide +kernel
theorem dX9_byteAt_24 : decode cX9_byteAt 24 = .ok (.iconst (-1), 1) := by decide +kernel
theorem dX9_byteAt_25 : decode cX9_byteAt 25 = .ok (.ireturn, 1) := by decide +kernel
theorem dX9_readsOne_0 : decode cX9_readsOne 0 = .ok (.aload_n 0, 1) := by decide +kernel
theorem dX9_readsOne_1 : decode cX9_readsOne 1 = .ok (.iload_n 1, 1) := by decide +kernel
theorem dX9_readsOne_2 : decode cX9_readsOne 2 = .ok (.iload_n 3, 1) := by decide +kernel
theorem dX9_readsOne_3 : decode cX9_readsOne 3 = .ok (.invokevirtual 105, 3) := by decide +kernel
theorem dX9_readsOne_6 : decode cX9_readsOne 6 = .ok (.bipush 48, 2) := by decide +kernel
theorem dX9_readsOne_8 : decode cX9_readsOne 8 = .ok (.isub, 1) := by decide +kernel
theorem dX9_readsOne_9 : decode cX9_readsOne 9 = .ok (.istore 4, 2) := by decide +kernel
theorem dX9_readsOne_11 : decode cX9_readsOne 11 = .ok (.aload_n 0, 1) := by decide +kernel
theorem dX9_readsOne_12 : decode cX9_readsOne 12 = .ok (.iload_n 1, 1) := by decide +kernel
theorem dX9_readsOne_13 : decode cX9_readsOne 13 = .ok (.iload_n 3, 1) := by decide +kernel
theorem dX9_readsOne_14 : decode cX9_readsOne 14 = .ok (.iconst 1, 1) := by decide +kernel
theorem dX9_readsOne_15 : decode cX9_readsOne 15 = .ok (.iadd, 1) := by decide +kernel
theorem dX9_readsOne_16 : decode cX9_readsOne 16 = .ok (.invokevirtual 105, 3) := by decide +kernel
theorem dX9_readsOne_19 : decode cX9_readsOne 19 = .ok (.bipush 48, 2) := by decide +kernel
theorem dX9_readsOne_21 : decode cX9_readsOne 21 = .ok (.isub, 1) := by decide +kernel
theorem dX9_readsOne_22 : decode cX9_readsOne 22 = .ok (.istore 5, 2) := by decide +kernel
theorem dX9_readsOne_24 : decode cX9_readsOne 24 = .ok (.aload_n 0, 1) := by decide +kernel
theorem dX9_readsOne_25 : decode cX9_readsOne 25 = .ok (.iload_n 1, 1) := by decide +kernel
theorem dX9_readsOne_26 : decode cX9_readsOne 26 = .ok (.iload_n 3, 1) := by decide +kernel
theorem dX9_readsOne_27 : decode cX9_readsOne 27 = .ok (.iconst 2, 1) := by decide +kernel
theorem dX9_readsOne_28 : decode cX9_readsOne 28 = .ok (.iadd, 1) := by decide +kernel
theorem dX9_readsOne_29 : decode cX9_readsOne 29 = .ok (.invokevirtual 105, 3) := by decide +kernel
theorem dX9_readsOne_32 : decode cX9_readsOne 32 = .ok (.istore 6, 2) := by decide +kernel
theorem dX9_readsOne_34 : decode cX9_readsOne 34 = .ok (.iload 4, 2) := by decide +kernel
theorem dX9_readsOne_36 : decode cX9_readsOne 36 = .ok (.iconst 1, 1) := by decide +kernel
theorem dX9_readsOne_37 : decode cX9_readsOne 37 = .ok (.iload_n 1, 1) := by decide +kernel
theorem dX9_readsOne_38 : decode cX9_readsOne 38 = .ok (.ifCond .ne 7, 3) := by decide +kernel
theorem dX9_readsOne_41 : decode cX9_readsOne 41 = .ok (.iconst 5, 1) := by decide +kernel
theorem dX9_readsOne_42 : decode cX9_readsOne 42 = .ok (.goto 5, 3) := by decide +kernel
theorem dX9_readsOne_45 : decode cX9_readsOne 45 = .ok (.bipush 9, 2) := by decide +kernel
theorem dX9_readsOne_47 : decode cX9_readsOne 47 = .ok (.invokestatic 97, 3) := by decide +kernel
theorem dX9_readsOne_50 : decode cX9_readsOne 50 = .ok (.ifCond .ne 5, 3) := by decide +kernel
theorem dX9_readsOne_53 : decode cX9_readsOne 53 = .ok (.iconst 0, 1) := by decide +kernel
theorem dX9_readsOne_54 : decode cX9_readsOne 54 = .ok (.ireturn, 1) := by decide +kernel
theorem dX9_readsOne_55 : decode cX9_readsOne 55 = .ok (.iload 5, 2) := by decide +kernel
theorem dX9_readsOne_57 : decode cX9_readsOne 57 = .ok (.iload_n 1, 1) := by decide +kernel
theorem dX9_readsOne_58 : decode cX9_readsOne 58 = .ok (.ifCond .ne 7, 3) := by decide +kernel
theorem dX9_readsOne_61 : decode cX9_readsOne 61 = .ok (.iconst 1, 1) := by decide +kernel
theorem dX9_readsOne_62 : decode cX9_readsOne 62 = .ok (.goto 4, 3) := by decide +kernel
theorem dX9_readsOne_65 : decode cX9_readsOne 65 = .ok (.iconst 0, 1) := by decide +kernel
theorem dX9_readsOne_66 : decode cX9_readsOne 66 = .ok (.iload_n 1, 1) := by decide +kernel
theorem dX9_readsOne_67 : decode cX9_readsOne 67 = .ok (.ifCond .ne 7, 3) := by decide +kernel
theorem dX9_readsOne_70 : decode cX9_readsOne 70 = .ok (.iconst 5, 1) := by decide +kernel
theorem dX9_readsOne_71 : decode cX9_readsOne 71 = .ok (.goto 5, 3) := by decide +kernel
theorem dX9_readsOne_74 : decode cX9_readsOne 74 = .ok (.bipush 9, 2) := by decide +kernel
theorem dX9_readsOne_76 : decode cX9_readsOne 76 = .ok (.invokestatic 97, 3) := by decide +kernel
theorem dX9_readsOne_79 : decode cX9_readsOne 79 = .ok (.ifCond .ne 5, 3) := by decide +kernel
theorem dX9_readsOne_82 : decode cX9_readsOne 82 = .ok (.iconst 1, 1) := by decide +kernel
theorem dX9_readsOne_83 : decode cX9_readsOne 83 = .ok (.ireturn, 1) := by decide +kernel
theorem dX9_readsOne_84 : decode cX9_readsOne 84 = .ok (.iload_n 1, 1) := by decide +kernel
theorem dX9_readsOne_85 : decode cX9_readsOne 85 = .ok (.ifCond .ne 20, 3) := by decide +kernel
theorem dX9_readsOne_88 : decode cX9_readsOne 88 = .ok (.iload 6, 2) := by decide +kernel
theorem dX9_readsOne_90 : decode cX9_readsOne 90 = .ok (.bipush 111, 2) := by decide +kernel
theorem dX9_readsOne_92 : decode cX9_readsOne 92 = .ok (.if_icmp .eq 34, 3) := by decide +kernel
theorem dX9_readsOne_95 : decode cX9_readsOne 95 = .ok (.iload 6, 2) := by decide +kernel
theorem dX9_readsOne_97 : decode cX9_readsOne 97 = .ok (.bipush 117, 2) := by decide +kernel
theorem dX9_readsOne_99 : decode cX9_readsOne 99 = .ok (.if_icmp .eq 27, 3) := by decide +kernel
theorem dX9_readsOne_102 : decode cX9_readsOne 102 = .ok (.goto 22, 3) := by decide +kernel
theorem dX9_readsOne_105 : decode cX9_readsOne 105 = .ok (.iload 6, 2) := by decide +kernel
theorem dX9_readsOne_107 : decode cX9_readsOne 107 = .ok (.bipush 46, 2) := by decide +kernel
theorem dX9_readsOne_109 : decode cX9_readsOne 109 = .ok (.if_icmp .eq 17, 3) := by decide +kernel
theorem dX9_readsOne_112 : decode cX9_readsOne 112 = .ok (.iload 6, 2) := by decide +kernel
theorem dX9_readsOne_114 : decode cX9_readsOne 114 = .ok (.bipush 97, 2) := by decide +kernel
theorem dX9_readsOne_116 : decode cX9_readsOne 116 = .ok (.bipush 104, 2) := by decide +kernel
theorem dX9_readsOne_118 : decode cX9_readsOne 118 = .ok (.invokestatic 97, 3) := by decide +kernel
theorem dX9_readsOne_121 : decode cX9_readsOne 121 = .ok (.ifCond .ne 5, 3) := by decide +kernel
theorem dX9_readsOne_124 : decode cX9_readsOne 124 = .ok (.iconst 2, 1) := by decide +kernel
theorem dX9_readsOne_125 : decode cX9_readsOne 125 = .ok (.ireturn, 1) := by decide +kernel
theorem dX9_readsOne_126 : decode cX9_readsOne 126 = .ok (.iload_n 1, 1) := by decide +kernel
theorem dX9_readsOne_127 : decode cX9_readsOne 127 = .ok (.ifCond .ne 40, 3) := by decide +kernel
theorem dX9_readsOne_130 : decode cX9_readsOne 130 = .ok (.aload_n 0, 1) := by decide +kernel
theorem dX9_readsOne_131 : decode cX9_readsOne 131 = .ok (.getfield 16, 3) := by decide +kernel
theorem dX9_readsOne_134 : decode cX9_readsOne 134 = .ok (.iload_n 2, 1) := by decide +kernel
theorem dX9_readsOne_135 : decode cX9_readsOne 135 = .ok (.iload 4, 2) := by decide +kernel
theorem dX9_readsOne_137 : decode cX9_readsOne 137 = .ok (.iastore, 1) := by decide +kernel
theorem dX9_readsOne_138 : decode cX9_readsOne 138 = .ok (.aload_n 0, 1) := by decide +kernel
theorem dX9_readsOne_139 : decode cX9_readsOne 139 = .ok (.getfield 19, 3) := by decide +kernel
theorem dX9_readsOne_142 : decode cX9_readsOne 142 = .ok (.iload_n 2, 1) := by decide +kernel
theorem dX9_readsOne_143 : decode cX9_readsOne 143 = .ok (.iload 5, 2) := by decide +kernel
theorem dX9_readsOne_145 : decode cX9_readsOne 145 = .ok (.iastore, 1) := by decide +kernel
theorem dX9_readsOne_146 : decode cX9_readsOne 146 = .ok (.aload_n 0, 1) := by decide +kernel
theorem dX9_readsOne_147 : decode cX9_readsOne 147 = .ok (.getfield 22, 3) := by decide +kernel
theorem dX9_readsOne_150 : decode cX9_readsOne 150 = .ok (.iload_n 2, 1) := by decide +kernel
theorem dX9_readsOne_151 : decode cX9_readsOne 151 = .ok (.iload 6, 2) := by decide +kernel
theorem dX9_readsOne_153 : decode cX9_readsOne 153 = .ok (.bipush 117, 2) := by decide +kernel
theorem dX9_readsOne_155 : decode cX9_readsOne 155 = .ok (.if_icmp .ne 7, 3) := by decide +kernel
theorem dX9_readsOne_158 : decode cX9_readsOne 158 = .ok (.iconst 1, 1) := by decide +kernel
theorem dX9_readsOne_159 : decode cX9_readsOne 159 = .ok (.goto 4, 3) := by decide +kernel
theorem dX9_readsOne_162 : decode cX9_readsOne 162 = .ok (.iconst 0, 1) := by decide +kernel
theorem dX9_readsOne_163 : decode cX9_readsOne 163 = .ok (.iastore, 1) := by decide +kernel
theorem dX9_readsOne_164 : decode cX9_readsOne 164 = .ok (.goto 41, 3) := by decide +kernel
theorem dX9_readsOne_167 : decode cX9_readsOne 167 = .ok (.aload_n 0, 1) := by decide +kernel
theorem dX9_readsOne_168 : decode cX9_readsOne 168 = .ok (.getfield 25, 3) := by decide +kernel
theorem dX9_readsOne_171 : decode cX9_readsOne 171 = .ok (.iload_n 2, 1) := by decide +kernel
theorem dX9_readsOne_172 : decode cX9_readsOne 172 = .ok (.iload 4, 2) := by decide +kernel
theorem dX9_readsOne_174 : decode cX9_readsOne 174 = .ok (.iastore, 1) := by decide +kernel
theorem dX9_readsOne_175 : decode cX9_readsOne 175 = .ok (.aload_n 0, 1) := by decide +kernel
theorem dX9_readsOne_176 : decode cX9_readsOne 176 = .ok (.getfield 28, 3) := by decide +kernel
theorem dX9_readsOne_179 : decode cX9_readsOne 179 = .ok (.iload_n 2, 1) := by decide +kernel
theorem dX9_readsOne_180 : decode cX9_readsOne 180 = .ok (.iload 5, 2) := by decide +kernel
theorem dX9_readsOne_182 : decode cX9_readsOne 182 = .ok (.iastore, 1) := by decide +kernel
theorem dX9_readsOne_183 : decode cX9_readsOne 183 = .ok (.aload_n 0, 1) := by decide +kernel
theorem dX9_readsOne_184 : decode cX9_readsOne 184 = .ok (.getfield 31, 3) := by decide +kernel
theorem dX9_readsOne_187 : decode cX9_readsOne 187 = .ok (.iload_n 2, 1) := by decide +kernel
theorem dX9_readsOne_188 : decode cX9_readsOne 188 = .ok (.iload 6, 2) := by decide +kernel
theorem dX9_readsOne_190 : decode cX9_readsOne 190 = .ok (.bipush 46, 2) := by decide +kernel
theorem dX9_readsOne_192 : decode cX9_readsOne 192 = .ok (.if_icmp .ne 7, 3) := by decide +kernel
theorem dX9_readsOne_195 : decode cX9_readsOne 195 = .ok (.iconst (-1), 1) := by decide +kernel
theorem dX9_readsOne_196 : decode cX9_readsOne 196 = .ok (.goto 8, 3) := by decide +kernel
theorem dX9_readsOne_199 : decode cX9_readsOne 199 = .ok (.iload 6, 2) := by decide +kernel
theorem dX9_readsOne_201 : decode cX9_readsOne 201 = .ok (.bipush 97, 2) := by decide +kernel
theorem dX9_readsOne_203 : decode cX9_readsOne 203 = .ok (.isub, 1) := by decide +kernel
theorem dX9_readsOne_204 : decode cX9_readsOne 204 = .ok (.iastore, 1) := by decide +kernel
theorem dX9_readsOne_205 : decode cX9_readsOne 205 = .ok (.iconst 3, 1) := by decide +kernel
theorem dX9_readsOne_206 : decode cX9_readsOne 206 = .ok (.ireturn, 1) := by decide +kernel
theorem dX9_readsText_0 : decode cX9_readsText 0 = .ok (.iload_n 1, 1) := by decide +kernel
theorem dX9_readsText_1 : decode cX9_readsText 1 = .ok (.ifCond .ne 8, 3) := by decide +kernel
theorem dX9_readsText_4 : decode cX9_readsText 4 = .ok (.bipush 6, 2) := by decide +kernel
theorem dX9_readsText_6 : decode cX9_readsText 6 = .ok (.goto 5, 3) := by decide +kernel
theorem dX9_readsText_9 : decode cX9_readsText 9 = .ok (.bipush 8, 2) := by decide +kernel
theorem dX9_readsText_11 : decode cX9_readsText 11 = .ok (.istore_n 2, 1) := by decide +kernel
theorem dX9_readsText_12 : decode cX9_readsText 12 = .ok (.iconst 0, 1) := by decide +kernel
theorem dX9_readsText_13 : decode cX9_readsText 13 = .ok (.istore_n 3, 1) := by decide +kernel
theorem dX9_readsText_14 : decode cX9_readsText 14 = .ok (.iconst 0, 1) := by decide +kernel
theorem dX9_readsText_15 : decode cX9_readsText 15 = .ok (.istore 4, 2) := by decide +kernel
theorem dX9_readsText_17 : decode cX9_readsText 17 = .ok (.aload_n 0, 1) := by decide +kernel
theorem dX9_readsText_18 : decode cX9_readsText 18 = .ok (.iload_n 1, 1) := by decide +kernel
theorem dX9_readsText_19 : decode cX9_readsText 19 = .ok (.ifCond .ne 7, 3) := by decide +kernel
theorem dX9_readsText_22 : decode cX9_readsText 22 = .ok (.iconst 0, 1) := by decide +kernel
theorem dX9_readsText_23 : decode cX9_readsText 23 = .ok (.goto 7, 3) := by decide +kernel
theorem dX9_readsText_26 : decode cX9_readsText 26 = .ok (.aload_n 0, 1) := by decide +kernel
theorem dX9_readsText_27 : decode cX9_readsText 27 = .ok (.getfield 109, 3) := by decide +kernel
theorem dX9_readsText_30 : decode cX9_readsText 30 = .ok (.putfield 109, 3) := by decide +kernel
theorem dX9_readsText_33 : decode cX9_readsText 33 = .ok (.aload_n 0, 1) := by decide +kernel
theorem dX9_readsText_34 : decode cX9_readsText 34 = .ok (.iload_n 1, 1) := by decide +kernel
theorem dX9_readsText_35 : decode cX9_readsText 35 = .ok (.iconst 1, 1) := by decide +kernel
theorem dX9_readsText_36 : decode cX9_readsText 36 = .ok (.if_icmp .ne 7, 3) := by decide +kernel
theorem dX9_readsText_39 : decode cX9_readsText 39 = .ok (.iconst 0, 1) := by decide +kernel
theorem dX9_readsText_40 : decode cX9_readsText 40 = .ok (.goto 7, 3) := by decide +kernel
theorem dX9_readsText_43 : decode cX9_readsText 43 = .ok (.aload_n 0, 1) := by decide +kernel
theorem dX9_readsText_44 : decode cX9_readsText 44 = .ok (.getfield 113, 3) := by decide +kernel
theorem dX9_readsText_47 : decode cX9_readsText 47 = .ok (.putfield 113, 3) := by decide +kernel
theorem dX9_readsText_50 : decode cX9_readsText 50 = .ok (.iload 4, 2) := by decide +kernel
theorem dX9_readsText_52 : decode cX9_readsText 52 = .ok (.aload_n 0, 1) := by decide +kernel
theorem dX9_readsText_53 : decode cX9_readsText 53 = .ok (.getfield 7, 3) := by decide +kernel
theorem dX9_readsText_56 : decode cX9_readsText 56 = .ok (.iload_n 1, 1) := by decide +kernel
theorem dX9_readsText_57 : decode cX9_readsText 57 = .ok (.iaload, 1) := by decide +kernel
theorem dX9_readsText_58 : decode cX9_readsText 58 = .ok (.if_icmp .lt 8, 3) := by decide +kernel
theorem dX9_readsText_61 : decode cX9_readsText 61 = .ok (.iload 4, 2) := by decide +kernel
theorem dX9_readsText_63 : decode cX9_readsText 63 = .ok (.ifCond .le 107, 3) := by decide +kernel
theorem dX9_readsText_66 : decode cX9_readsText 66 = .ok (.iload_n 3, 1) := by decide +kernel
theorem dX9_readsText_67 : decode cX9_readsText 67 = .ok (.iload_n 2, 1) := by decide +kernel
theorem dX9_readsText_68 : decode cX9_readsText 68 = .ok (.if_icmp .ne 7, 3) := by decide +kernel
theorem dX9_readsText_71 : decode cX9_readsText 71 = .ok (.iconst 0, 1) := by decide +kernel
theorem dX9_readsText_72 : decode cX9_readsText 72 = .ok (.goto 11, 3) := by decide +kernel
theorem dX9_readsText_75 : decode cX9_readsText 75 = .ok (.aload_n 0, 1) := by decide +kernel
theorem dX9_readsText_76 : decode cX9_readsText 76 = .ok (.iload_n 1, 1) := by decide +kernel
theorem dX9_readsText_77 : decode cX9_readsText 77 = .ok (.iload_n 3, 1) := by decide +kernel
theorem dX9_readsText_78 : decode cX9_readsText 78 = .ok (.iload 4, 2) := by decide +kernel
theorem dX9_readsText_80 : decode cX9_readsText 80 = .ok (.invokevirtual 116, 3) := by decide +kernel
theorem dX9_readsText_83 : decode cX9_readsText 83 = .ok (.istore 5, 2) := by decide +kernel
theorem dX9_readsText_85 : decode cX9_readsText 85 = .ok (.iload 5, 2) := by decide +kernel
theorem dX9_readsText_87 : decode cX9_readsText 87 = .ok (.iconst 3, 1) := by decide +kernel
theorem dX9_readsText_88 : decode cX9_readsText 88 = .ok (.if_icmp .ge 9, 3) := by decide +kernel
theorem dX9_readsText_91 : decode cX9_readsText 91 = .ok (.iload 4, 2) := by decide +kernel
theorem dX9_readsText_93 : decode cX9_readsText 93 = .ok (.iload 5, 2) := by decide +kernel
theorem dX9_readsText_95 : decode cX9_readsText 95 = .ok (.iadd, 1) := by decide +kernel
theorem dX9_readsText_96 : decode cX9_readsText 96 = .ok (.ireturn, 1) := by decide +kernel
theorem dX9_readsText_97 : decode cX9_readsText 97 = .ok (.iinc 3 1, 3) := by decide +kernel
theorem dX9_readsText_100 : decode cX9_readsText 100 = .ok (.iinc 4 3, 3) := by decide +kernel
theorem dX9_readsText_103 : decode cX9_readsText 103 = .ok (.iload 4, 2) := by decide +kernel
theorem dX9_readsText_105 : decode cX9_readsText 105 = .ok (.aload_n 0, 1) := by decide +kernel
theorem dX9_readsText_106 : decode cX9_readsText 106 = .ok (.getfield 7, 3) := by decide +kernel
theorem dX9_readsText_109 : decode cX9_readsText 109 = .ok (.iload_n 1, 1) := by decide +kernel
theorem dX9_readsText_110 : decode cX9_readsText 110 = .ok (.iaload, 1) := by decide +kernel
theorem dX9_readsText_111 : decode cX9_readsText 111 = .ok (.if_icmp .ne 38, 3) := by decide +kernel
theorem dX9_readsText_114 : decode cX9_readsText 114 = .ok (.aload_n 0, 1) := by decide +kernel
theorem dX9_readsText_115 : decode cX9_readsText 115 = .ok (.iload_n 1, 1) := by decide +kernel
theorem dX9_readsText_116 : decode cX9_readsText 116 = .ok (.ifCond .ne 7, 3) := by decide +kernel
theorem dX9_readsText_119 : decode cX9_readsText 119 = .ok (.iload_n 3, 1) := by decide +kernel
theorem dX9_readsText_120 : decode cX9_readsText 120 = .ok (.goto 7, 3) := by decide +kernel
theorem dX9_readsText_123 : decode cX9_readsText 123 = .ok (.aload_n 0, 1) := by decide +kernel
theorem dX9_readsText_124 : decode cX9_readsText 124 = .ok (.getfield 109, 3) := by decide +kernel
theorem dX9_readsText_127 : decode cX9_readsText 127 = .ok (.putfield 109, 3) := by decide +kernel
theorem dX9_readsText_130 : decode cX9_readsText 130 = .ok (.aload_n 0, 1) := by decide +kernel
theorem dX9_readsText_131 : decode cX9_readsText 131 = .ok (.iload_n 1, 1) := by decide +kernel
theorem dX9_readsText_132 : decode cX9_readsText 132 = .ok (.iconst 1, 1) := by decide +kernel
theorem dX9_readsText_133 : decode cX9_readsText 133 = .ok (.if_icmp .ne 7, 3) := by decide +kernel
theorem dX9_readsText_136 : decode cX9_readsText 136 = .ok (.iload_n 3, 1) := by decide +kernel
theorem dX9_readsText_137 : decode cX9_readsText 137 = .ok (.goto 7, 3) := by decide +kernel
theorem dX9_readsText_140 : decode cX9_readsText 140 = .ok (.aload_n 0, 1) := by decide +kernel
theorem dX9_readsText_141 : decode cX9_readsText 141 = .ok (.getfield 113, 3) := by decide +kernel
theorem dX9_readsText_144 : decode cX9_readsText 144 = .ok (.putfield 113, 3) := by decide +kernel
theorem dX9_readsText_147 : decode cX9_readsText 147 = .ok (.iconst (-1), 1) := by decide +kernel
theorem dX9_readsText_148 : decode cX9_readsText 148 = .ok (.ireturn, 1) := by decide +kernel
theorem dX9_readsText_149 : decode cX9_readsText 149 = .ok (.aload_n 0, 1) := by decide +kernel
theorem dX9_readsText_150 : decode cX9_readsText 150 = .ok (.iload_n 1, 1) := by decide +kernel
theorem dX9_readsText_151 : decode cX9_readsText 151 = .ok (.iload 4, 2) := by decide +kernel
theorem dX9_readsText_153 : decode cX9_readsText 153 = .ok (.invokevirtual 105, 3) := by decide +kernel
theorem dX9_readsText_156 : decode cX9_readsText 156 = .ok (.bipush 59, 2) := by decide +kernel
theorem dX9_readsText_158 : decode cX9_readsText 158 = .ok (.if_icmp .eq 6, 3) := by decide +kernel
theorem dX9_readsText_161 : decode cX9_readsText 161 = .ok (.iload 4, 2) := by decide +kernel
theorem dX9_readsText_163 : decode cX9_readsText 163 = .ok (.ireturn, 1) := by decide +kernel
theorem dX9_readsText_164 : decode cX9_readsText 164 = .ok (.iinc 4 1, 3) := by decide +kernel
theorem dX9_readsText_167 : decode cX9_readsText 167 = .ok (.goto (-117), 3) := by decide +kernel
theorem dX9_readsText_170 : decode cX9_readsText 170 = .ok (.iconst (-1), 1) := by decide +kernel
theorem dX9_readsText_171 : decode cX9_readsText 171 = .ok (.ireturn, 1) := by decide +kernel
theorem dX9_faultOf_0 : decode cX9_faultOf 0 = .ok (.aload_n 0, 1) := by decide +kernel
theorem dX9_faultOf_1 : decode cX9_faultOf 1 = .ok (.iconst 0, 1) := by decide +kernel
theorem dX9_faultOf_2 : decode cX9_faultOf 2 = .ok (.invokevirtual 120, 3) := by decide +kernel
theorem dX9_faultOf_5 : decode cX9_faultOf 5 = .ok (.istore_n 2, 1) := by decide +kernel
theorem dX9_faultOf_6 : decode cX9_faultOf 6 = .ok (.aload_n 0, 1) := by decide +kernel
theorem dX9_faultOf_7 : decode cX9_faultOf 7 = .ok (.iconst 1, 1) := by decide +kernel
theorem dX9_faultOf_8 : decode cX9_faultOf 8 = .ok (.invokevirtual 120, 3) := by decide +kernel
theorem dX9_faultOf_11 : decode cX9_faultOf 11 = .ok (.istore_n 3, 1) := by decide +kernel
theorem dX9_faultOf_12 : decode cX9_faultOf 12 = .ok (.iload_n 1, 1) := by decide +kernel
theorem dX9_faultOf_13 : decode cX9_faultOf 13 = .ok (.ifCond .ne 7, 3) := by decide +kernel
theorem dX9_faultOf_16 : decode cX9_faultOf 16 = .ok (.iload_n 2, 1) := by decide +kernel
theorem dX9_faultOf_17 : decode cX9_faultOf 17 = .ok (.goto 4, 3) := by decide +kernel
theorem dX9_faultOf_20 : decode cX9_faultOf 20 = .ok (.iload_n 3, 1) := by decide +kernel
theorem dX9_faultOf_21 : decode cX9_faultOf 21 = .ok (.ireturn, 1) := by decide +kernel
theorem dX9_reads_0 : decode cX9_reads 0 = .ok (.aload_n 0, 1) := by decide +kernel
theorem dX9_reads_1 : decode cX9_reads 1 = .ok (.iconst 0, 1) := by decide +kernel
theorem dX9_reads_2 : decode cX9_reads 2 = .ok (.invokevirtual 124, 3) := by decide +kernel
theorem dX9_reads_5 : decode cX9_reads 5 = .ok (.istore_n 1, 1) := by decide +kernel
theorem dX9_reads_6 : decode cX9_reads 6 = .ok (.return_, 1) := by decide +kernel
theorem dX9_fault_0 : decode cX9_fault 0 = .ok (.iload_n 1, 1) := by decide +kernel
theorem dX9_fault_1 : decode cX9_fault 1 = .ok (.invokestatic 101, 3) := by decide +kernel
theorem dX9_fault_4 : decode cX9_fault 4 = .ok (.ifCond .eq 11, 3) := by decide +kernel
theorem dX9_fault_7 : decode cX9_fault 7 = .ok (.aload_n 0, 1) := by decide +kernel
theorem dX9_fault_8 : decode cX9_fault 8 = .ok (.iload_n 1, 1) := by decide +kernel
theorem dX9_fault_9 : decode cX9_fault 9 = .ok (.invokevirtual 124, 3) := by decide +kernel
theorem dX9_fault_12 : decode cX9_fault 12 = .ok (.goto 5, 3) := by decide +kernel
theorem dX9_fault_15 : decode cX9_fault 15 = .ok (.bipush (-2), 2) := by decide +kernel
theorem dX9_fault_17 : decode cX9_fault 17 = .ok (.ireturn, 1) := by decide +kernel
theorem dX9_isThing_0 : decode cX9_isThing 0 = .ok (.aload_n 0, 1) := by decide +kernel
theorem dX9_isThing_1 : decode cX9_isThing 1 = .ok (.invokevirtual 127, 3) := by decide +kernel
theorem dX9_isThing_4 : decode cX9_isThing 4 = .ok (.iload_n 1, 1) := by decide +kernel
theorem dX9_isThing_5 : decode cX9_isThing 5 = .ok (.iconst 0, 1) := by decide +kernel
theorem dX9_isThing_6 : decode cX9_isThing 6 = .ok (.aload_n 0, 1) := by decide +kernel
theorem dX9_isThing_7 : decode cX9_isThing 7 = .ok (.getfield 109, 3) := by decide +kernel
theorem dX9_isThing_10 : decode cX9_isThing 10 = .ok (.iconst 1, 1) := by decide +kernel
theorem dX9_isThing_11 : decode cX9_isThing 11 = .ok (.isub, 1) := by decide +kernel
theorem dX9_isThing_12 : decode cX9_isThing 12 = .ok (.invokestatic 97, 3) := by decide +kernel
theorem dX9_isThing_15 : decode cX9_isThing 15 = .ok (.ireturn, 1) := by decide +kernel
theorem dX9_isPerson_0 : decode cX9_isPerson 0 = .ok (.aload_n 0, 1) := by decide +kernel
theorem dX9_isPerson_1 : decode cX9_isPerson 1 = .ok (.invokevirtual 127, 3) := by decide +kernel
theorem dX9_isPerson_4 : decode cX9_isPerson 4 = .ok (.iload_n 1, 1) := by decide +kernel
theorem dX9_isPerson_5 : decode cX9_isPerson 5 = .ok (.iconst 0, 1) := by decide +kernel
theorem dX9_isPerson_6 : decode cX9_isPerson 6 = .ok (.aload_n 0, 1) := by decide +kernel
theorem dX9_isPerson_7 : decode cX9_isPerson 7 = .ok (.getfield 113, 3) := by decide +kernel
theorem dX9_isPerson_10 : decode cX9_isPerson 10 = .ok (.iconst 1, 1) := by decide +kernel
theorem dX9_isPerson_11 : decode cX9_isPerson 11 = .ok (.isub, 1) := by decide +kernel
theorem dX9_isPerson_12 : decode cX9_isPerson 12 = .ok (.invokestatic 97, 3) := by decide +kernel
theorem dX9_isPerson_15 : decode cX9_isPerson 15 = .ok (.ireturn, 1) := by decide +kernel
theorem dX9_thing_0 : decode cX9_thing 0 = .ok (.aload_n 0, 1) := by decide +kernel
theorem dX9_thing_1 : decode cX9_thing 1 = .ok (.iload_n 1, 1) := by decide +kernel
theorem dX9_thing_2 : decode cX9_thing 2 = .ok (.invokevirtual 130, 3) := by decide +kernel
theorem dX9_thing_5 : decode cX9_thing 5 = .ok (.ifCond .eq 48, 3) := by decide +kernel
theorem dX9_thing_8 : decode cX9_thing 8 = .ok (.iload_n 2, 1) := by decide +kernel
theorem dX9_thing_9 : decode cX9_thing 9 = .ok (.iconst 0, 1) := by decide +kernel
theorem dX9_thing_10 : decode cX9_thing 10 = .ok (.iconst 2, 1) := by decide +kernel
theorem dX9_thing_11 : decode cX9_thing 11 = .ok (.invokestatic 97, 3) := by decide +kernel
theorem dX9_thing_14 : decode cX9_thing 14 = .ok (.ifCond .eq 39, 3) := by decide +kernel
theorem dX9_thing_17 : decode cX9_thing 17 = .ok (.iload_n 2, 1) := by decide +kernel
theorem dX9_thing_18 : decode cX9_thing 18 = .ok (.ifCond .ne 12, 3) := by decide +kernel
theorem dX9_thing_21 : decode cX9_thing 21 = .ok (.aload_n 0, 1) := by decide +kernel
theorem dX9_thing_22 : decode cX9_thing 22 = .ok (.getfield 16, 3) := by decide +kernel
theorem dX9_thing_25 : decode cX9_thing 25 = .ok (.iload_n 1, 1) := by decide +kernel
theorem dX9_thing_26 : decode cX9_thing 26 = .ok (.iaload, 1) := by decide +kernel
theorem dX9_thing_27 : decode cX9_thing 27 = .ok (.goto 28, 3) := by decide +kernel
theorem dX9_thing_30 : decode cX9_thing 30 = .ok (.iload_n 2, 1) := by decide +kernel
theorem dX9_thing_31 : decode cX9_thing 31 = .ok (.iconst 1, 1) := by decide +kernel
theorem dX9_thing_32 : decode cX9_thing 32 = .ok (.if_icmp .ne 12, 3) := by decide +kernel
theorem dX9_thing_35 : decode cX9_thing 35 = .ok (.aload_n 0, 1) := by decide +kernel
theorem dX9_thing_36 : decode cX9_thing 36 = .ok (.getfield 19, 3) := by decide +kernel
theorem dX9_thing_39 : decode cX9_thing 39 = .ok (.iload_n 1, 1) := by decide +kernel
theorem dX9_thing_40 : decode cX9_thing 40 = .ok (.iaload, 1) := by decide +kernel
theorem dX9_thing_41 : decode cX9_thing 41 = .ok (.goto 14, 3) := by decide +kernel
theorem dX9_thing_44 : decode cX9_thing 44 = .ok (.aload_n 0, 1) := by decide +kernel
theorem dX9_thing_45 : decode cX9_thing 45 = .ok (.getfield 22, 3) := by decide +kernel
theorem dX9_thing_48 : decode cX9_thing 48 = .ok (.iload_n 1, 1) := by decide +kernel
theorem dX9_thing_49 : decode cX9_thing 49 = .ok (.iaload, 1) := by decide +kernel
theorem dX9_thing_50 : decode cX9_thing 50 = .ok (.goto 5, 3) := by decide +kernel
theorem dX9_thing_53 : decode cX9_thing 53 = .ok (.bipush (-2), 2) := by decide +kernel
theorem dX9_thing_55 : decode cX9_thing 55 = .ok (.ireturn, 1) := by decide +kernel
theorem dX9_smellOf_0 : decode cX9_smellOf 0 = .ok (.aload_n 0, 1) := by decide +kernel
theorem dX9_smellOf_1 : decode cX9_smellOf 1 = .ok (.getfield 31, 3) := by decide +kernel
theorem dX9_smellOf_4 : decode cX9_smellOf 4 = .ok (.iload_n 1, 1) := by decide +kernel
theorem dX9_smellOf_5 : decode cX9_smellOf 5 = .ok (.iaload, 1) := by decide +kernel
theorem dX9_smellOf_6 : decode cX9_smellOf 6 = .ok (.iconst 0, 1) := by decide +kernel
theorem dX9_smellOf_7 : decode cX9_smellOf 7 = .ok (.aload_n 0, 1) := by decide +kernel
theorem dX9_smellOf_8 : decode cX9_smellOf 8 = .ok (.getfield 113, 3) := by decide +kernel
theorem dX9_smellOf_11 : decode cX9_smellOf 11 = .ok (.iconst 1, 1) := by decide +kernel
theorem dX9_smellOf_12 : decode cX9_smellOf 12 = .ok (.isub, 1) := by decide +kernel
theorem dX9_smellOf_13 : decode cX9_smellOf 13 = .ok (.invokestatic 97, 3) := by decide +kernel
theorem dX9_smellOf_16 : decode cX9_smellOf 16 = .ok (.ifCond .eq 12, 3) := by decide +kernel
theorem dX9_smellOf_19 : decode cX9_smellOf 19 = .ok (.aload_n 0, 1) := by decide +kernel
theorem dX9_smellOf_20 : decode cX9_smellOf 20 = .ok (.getfield 31, 3) := by decide +kernel
theorem dX9_smellOf_23 : decode cX9_smellOf 23 = .ok (.iload_n 1, 1) := by decide +kernel
theorem dX9_smellOf_24 : decode cX9_smellOf 24 = .ok (.iaload, 1) := by decide +kernel
theorem dX9_smellOf_25 : decode cX9_smellOf 25 = .ok (.goto 4, 3) := by decide +kernel
theorem dX9_smellOf_28 : decode cX9_smellOf 28 = .ok (.iload_n 1, 1) := by decide +kernel
theorem dX9_smellOf_29 : decode cX9_smellOf 29 = .ok (.ireturn, 1) := by decide +kernel
theorem dX9_personOf_0 : decode cX9_personOf 0 = .ok (.iload_n 2, 1) := by decide +kernel
theorem dX9_personOf_1 : decode cX9_personOf 1 = .ok (.ifCond .ne 12, 3) := by decide +kernel
theorem dX9_personOf_4 : decode cX9_personOf 4 = .ok (.aload_n 0, 1) := by decide +kernel
theorem dX9_personOf_5 : decode cX9_personOf 5 = .ok (.getfield 25, 3) := by decide +kernel
theorem dX9_personOf_8 : decode cX9_personOf 8 = .ok (.iload_n 1, 1) := by decide +kernel
theorem dX9_personOf_9 : decode cX9_personOf 9 = .ok (.iaload, 1) := by decide +kernel
theorem dX9_personOf_10 : decode cX9_personOf 10 = .ok (.goto 22, 3) := by decide +kernel
theorem dX9_personOf_13 : decode cX9_personOf 13 = .ok (.iload_n 2, 1) := by decide +kernel
theorem dX9_personOf_14 : decode cX9_personOf 14 = .ok (.iconst 1, 1) := by decide +kernel
theorem dX9_personOf_15 : decode cX9_personOf 15 = .ok (.if_icmp .ne 12, 3) := by decide +kernel
theorem dX9_personOf_18 : decode cX9_personOf 18 = .ok (.aload_n 0, 1) := by decide +kernel
theorem dX9_personOf_19 : decode cX9_personOf 19 = .ok (.getfield 28, 3) := by decide +kernel
theorem dX9_personOf_22 : decode cX9_personOf 22 = .ok (.iload_n 1, 1) := by decide +kernel
theorem dX9_personOf_23 : decode cX9_personOf 23 = .ok (.iaload, 1) := by decide +kernel
theorem dX9_personOf_24 : decode cX9_personOf 24 = .ok (.goto 8, 3) := by decide +kernel
theorem dX9_personOf_27 : decode cX9_personOf 27 = .ok (.aload_n 0, 1) := by decide +kernel
theorem dX9_personOf_28 : decode cX9_personOf 28 = .ok (.iload_n 1, 1) := by decide +kernel
theorem dX9_personOf_29 : decode cX9_personOf 29 = .ok (.invokevirtual 133, 3) := by decide +kernel
theorem dX9_personOf_32 : decode cX9_personOf 32 = .ok (.ireturn, 1) := by decide +kernel
theorem dX9_person_0 : decode cX9_person 0 = .ok (.aload_n 0, 1) := by decide +kernel
theorem dX9_person_1 : decode cX9_person 1 = .ok (.iload_n 1, 1) := by decide +kernel
theorem dX9_person_2 : decode cX9_person 2 = .ok (.invokevirtual 136, 3) := by decide +kernel
theorem dX9_person_5 : decode cX9_person 5 = .ok (.ifCond .eq 21, 3) := by decide +kernel
theorem dX9_person_8 : decode cX9_person 8 = .ok (.iload_n 2, 1) := by decide +kernel
theorem dX9_person_9 : decode cX9_person 9 = .ok (.iconst 0, 1) := by decide +kernel
theorem dX9_person_10 : decode cX9_person 10 = .ok (.iconst 2, 1) := by decide +kernel
theorem dX9_person_11 : decode cX9_person 11 = .ok (.invokestatic 97, 3) := by decide +kernel
theorem dX9_person_14 : decode cX9_person 14 = .ok (.ifCond .eq 12, 3) := by decide +kernel
theorem dX9_person_17 : decode cX9_person 17 = .ok (.aload_n 0, 1) := by decide +kernel
theorem dX9_person_18 : decode cX9_person 18 = .ok (.iload_n 1, 1) := by decide +kernel
theorem dX9_person_19 : decode cX9_person 19 = .ok (.iload_n 2, 1) := by decide +kernel
theorem dX9_person_20 : decode cX9_person 20 = .ok (.invokevirtual 139, 3) := by decide +kernel
theorem dX9_person_23 : decode cX9_person 23 = .ok (.goto 5, 3) := by decide +kernel
theorem dX9_person_26 : decode cX9_person 26 = .ok (.bipush (-2), 2) := by decide +kernel
theorem dX9_person_28 : decode cX9_person 28 = .ok (.ireturn, 1) := by decide +kernel
theorem dX9_sit_0 : decode cX9_sit 0 = .ok (.iload_n 1, 1) := by decide +kernel
theorem dX9_sit_1 : decode cX9_sit 1 = .ok (.invokestatic 142, 3) := by decide +kernel
theorem dX9_sit_4 : decode cX9_sit 4 = .ok (.ifCond .eq 17, 3) := by decide +kernel
theorem dX9_sit_7 : decode cX9_sit 7 = .ok (.iload_n 2, 1) := by decide +kernel
theorem dX9_sit_8 : decode cX9_sit 8 = .ok (.invokestatic 145, 3) := by decide +kernel
theorem dX9_sit_11 : decode cX9_sit 11 = .ok (.ifCond .eq 10, 3) := by decide +kernel
theorem dX9_sit_14 : decode cX9_sit 14 = .ok (.iload_n 3, 1) := by decide +kernel
theorem dX9_sit_15 : decode cX9_sit 15 = .ok (.invokestatic 148, 3) := by decide +kernel
theorem dX9_sit_18 : decode cX9_sit 18 = .ok (.ifCond .ne 6, 3) := by decide +kernel
theorem dX9_sit_21 : decode cX9_sit 21 = .ok (.bipush (-2), 2) := by decide +kernel
theorem dX9_sit_23 : decode cX9_sit 23 = .ok (.ireturn, 1) := by decide +kernel
theorem dX9_sit_24 : decode cX9_sit 24 = .ok (.aload_n 0, 1) := by decide +kernel
theorem dX9_sit_25 : decode cX9_sit 25 = .ok (.getfield 151, 3) := by decide +kernel
theorem dX9_sit_28 : decode cX9_sit 28 = .ok (.bipush 20, 2) := by decide +kernel
theorem dX9_sit_30 : decode cX9_sit 30 = .ok (.if_icmp .ne 6, 3) := by decide +kernel
theorem dX9_sit_33 : decode cX9_sit 33 = .ok (.bipush (-4), 2) := by decide +kernel
theorem dX9_sit_35 : decode cX9_sit 35 = .ok (.ireturn, 1) := by decide +kernel
theorem dX9_sit_36 : decode cX9_sit 36 = .ok (.aload_n 0, 1) := by decide +kernel
theorem dX9_sit_37 : decode cX9_sit 37 = .ok (.aload_n 0, 1) := by decide +kernel
theorem dX9_sit_38 : decode cX9_sit 38 = .ok (.getfield 151, 3) := by decide +kernel
theorem dX9_sit_41 : decode cX9_sit 41 = .ok (.iload_n 1, 1) := by decide +kernel
theorem dX9_sit_42 : decode cX9_sit 42 = .ok (.iload_n 2, 1) := by decide +kernel
theorem dX9_sit_43 : decode cX9_sit 43 = .ok (.iload_n 3, 1) := by decide +kernel
theorem dX9_sit_44 : decode cX9_sit 44 = .ok (.invokevirtual 154, 3) := by decide +kernel
theorem dX9_sit_47 : decode cX9_sit 47 = .ok (.aload_n 0, 1) := by decide +kernel
theorem dX9_sit_48 : decode cX9_sit 48 = .ok (.dup, 1) := by decide +kernel
theorem dX9_sit_49 : decode cX9_sit 49 = .ok (.getfield 151, 3) := by decide +kernel
theorem dX9_sit_52 : decode cX9_sit 52 = .ok (.iconst 1, 1) := by decide +kernel
theorem dX9_sit_53 : decode cX9_sit 53 = .ok (.iadd, 1) := by decide +kernel
theorem dX9_sit_54 : decode cX9_sit 54 = .ok (.putfield 151, 3) := by decide +kernel
theorem dX9_sit_57 : decode cX9_sit 57 = .ok (.aload_n 0, 1) := by decide +kernel
theorem dX9_sit_58 : decode cX9_sit 58 = .ok (.getfield 151, 3) := by decide +kernel
theorem dX9_sit_61 : decode cX9_sit 61 = .ok (.ireturn, 1) := by decide +kernel
theorem dX9_laysSit_0 : decode cX9_laysSit 0 = .ok (.aload_n 0, 1) := by decide +kernel
theorem dX9_laysSit_1 : decode cX9_laysSit 1 = .ok (.getfield 34, 3) := by decide +kernel
theorem dX9_laysSit_4 : decode cX9_laysSit 4 = .ok (.iload_n 1, 1) := by decide +kernel
theorem dX9_laysSit_5 : decode cX9_laysSit 5 = .ok (.iload_n 2, 1) := by decide +kernel
theorem dX9_laysSit_6 : decode cX9_laysSit 6 = .ok (.iastore, 1) := by decide +kernel
theorem dX9_laysSit_7 : decode cX9_laysSit 7 = .ok (.aload_n 0, 1) := by decide +kernel
theorem dX9_laysSit_8 : decode cX9_laysSit 8 = .ok (.getfield 37, 3) := by decide +kernel
theorem dX9_laysSit_11 : decode cX9_laysSit 11 = .ok (.iload_n 1, 1) := by decide +kernel
theorem dX9_laysSit_12 : decode cX9_laysSit 12 = .ok (.iload_n 3, 1) := by decide +kernel
theorem dX9_laysSit_13 : decode cX9_laysSit 13 = .ok (.iastore, 1) := by decide +kernel
theorem dX9_laysSit_14 : decode cX9_laysSit 14 = .ok (.aload_n 0, 1) := by decide +kernel
theorem dX9_laysSit_15 : decode cX9_laysSit 15 = .ok (.getfield 40, 3) := by decide +kernel
theorem dX9_laysSit_18 : decode cX9_laysSit 18 = .ok (.iload_n 1, 1) := by decide +kernel
theorem dX9_laysSit_19 : decode cX9_laysSit 19 = .ok (.iload 4, 2) := by decide +kernel
theorem dX9_laysSit_21 : decode cX9_laysSit 21 = .ok (.iastore, 1) := by decide +kernel
theorem dX9_laysSit_22 : decode cX9_laysSit 22 = .ok (.return_, 1) := by decide +kernel
theorem dX9_window_0 : decode cX9_window 0 = .ok (.iload_n 1, 1) := by decide +kernel
theorem dX9_window_1 : decode cX9_window 1 = .ok (.invokestatic 142, 3) := by decide +kernel
theorem dX9_window_4 : decode cX9_window 4 = .ok (.ifCond .eq 10, 3) := by decide +kernel
theorem dX9_window_7 : decode cX9_window 7 = .ok (.iload_n 2, 1) := by decide +kernel
theorem dX9_window_8 : decode cX9_window 8 = .ok (.invokestatic 148, 3) := by decide +kernel
theorem dX9_window_11 : decode cX9_window 11 = .ok (.ifCond .ne 6, 3) := by decide +kernel
theorem dX9_window_14 : decode cX9_window 14 = .ok (.bipush (-2), 2) := by decide +kernel
theorem dX9_window_16 : decode cX9_window 16 = .ok (.ireturn, 1) := by decide +kernel
theorem dX9_window_17 : decode cX9_window 17 = .ok (.aload_n 0, 1) := by decide +kernel
theorem dX9_window_18 : decode cX9_window 18 = .ok (.getfield 158, 3) := by decide +kernel
theorem dX9_window_21 : decode cX9_window 21 = .ok (.bipush 8, 2) := by decide +kernel
theorem dX9_window_23 : decode cX9_window 23 = .ok (.if_icmp .ne 6, 3) := by decide +kernel
theorem dX9_window_26 : decode cX9_window 26 = .ok (.bipush (-4), 2) := by decide +kernel
theorem dX9_window_28 : decode cX9_window 28 = .ok (.ireturn, 1) := by decide +kernel
theorem dX9_window_29 : decode cX9_window 29 = .ok (.aload_n 0, 1) := by decide +kernel
theorem dX9_window_30 : decode cX9_window 30 = .ok (.getfield 43, 3) := by decide +kernel
theorem dX9_window_33 : decode cX9_window 33 = .ok (.aload_n 0, 1) := by decide +kernel
theorem dX9_window_34 : decode cX9_window 34 = .ok (.getfield 158, 3) := by decide +kernel
theorem dX9_window_37 : decode cX9_window 37 = .ok (.iload_n 1, 1) := by decide +kernel
theorem dX9_window_38 : decode cX9_window 38 = .ok (.iastore, 1) := by decide +kernel
theorem dX9_window_39 : decode cX9_window 39 = .ok (.aload_n 0, 1) := by decide +kernel
theorem dX9_window_40 : decode cX9_window 40 = .ok (.getfield 46, 3) := by decide +kernel
theorem dX9_window_43 : decode cX9_window 43 = .ok (.aload_n 0, 1) := by decide +kernel
theorem dX9_window_44 : decode cX9_window 44 = .ok (.getfield 158, 3) := by decide +kernel
theorem dX9_window_47 : decode cX9_window 47 = .ok (.iload_n 2, 1) := by decide +kernel
theorem dX9_window_48 : decode cX9_window 48 = .ok (.iastore, 1) := by decide +kernel
theorem dX9_window_49 : decode cX9_window 49 = .ok (.aload_n 0, 1) := by decide +kernel
theorem dX9_window_50 : decode cX9_window 50 = .ok (.dup, 1) := by decide +kernel
theorem dX9_window_51 : decode cX9_window 51 = .ok (.getfield 158, 3) := by decide +kernel
theorem dX9_window_54 : decode cX9_window 54 = .ok (.iconst 1, 1) := by decide +kernel
theorem dX9_window_55 : decode cX9_window 55 = .ok (.iadd, 1) := by decide +kernel
theorem dX9_window_56 : decode cX9_window 56 = .ok (.putfield 158, 3) := by decide +kernel
theorem dX9_window_59 : decode cX9_window 59 = .ok (.aload_n 0, 1) := by decide +kernel
theorem dX9_window_60 : decode cX9_window 60 = .ok (.getfield 158, 3) := by decide +kernel
theorem dX9_window_63 : decode cX9_window 63 = .ok (.ireturn, 1) := by decide +kernel
theorem dX9_back_0 : decode cX9_back 0 = .ok (.iload_n 1, 1) := by decide +kernel
theorem dX9_back_1 : decode cX9_back 1 = .ok (.iconst 0, 1) := by decide +kernel
theorem dX9_back_2 : decode cX9_back 2 = .ok (.iconst 1, 1) := by decide +kernel
theorem dX9_back_3 : decode cX9_back 3 = .ok (.invokestatic 97, 3) := by decide +kernel
theorem dX9_back_6 : decode cX9_back 6 = .ok (.ifCond .ne 6, 3) := by decide +kernel
theorem dX9_back_9 : decode cX9_back 9 = .ok (.bipush (-2), 2) := by decide +kernel
theorem dX9_back_11 : decode cX9_back 11 = .ok (.ireturn, 1) := by decide +kernel
theorem dX9_back_12 : decode cX9_back 12 = .ok (.iload_n 1, 1) := by decide +kernel
theorem dX9_back_13 : decode cX9_back 13 = .ok (.ifCond .ne 10, 3) := by decide +kernel
theorem dX9_back_16 : decode cX9_back 16 = .ok (.aload_n 0, 1) := by decide +kernel
theorem dX9_back_17 : decode cX9_back 17 = .ok (.getfield 151, 3) := by decide +kernel
theorem dX9_back_20 : decode cX9_back 20 = .ok (.goto 7, 3) := by decide +kernel
theorem dX9_back_23 : decode cX9_back 23 = .ok (.aload_n 0, 1) := by decide +kernel
theorem dX9_back_24 : decode cX9_back 24 = .ok (.getfield 158, 3) := by decide +kernel
theorem dX9_back_27 : decode cX9_back 27 = .ok (.istore_n 2, 1) := by decide +kernel
theorem dX9_back_28 : decode cX9_back 28 = .ok (.iload_n 2, 1) := by decide +kernel
theorem dX9_back_29 : decode cX9_back 29 = .ok (.ifCond .ne 6, 3) := by decide +kernel
theorem dX9_back_32 : decode cX9_back 32 = .ok (.bipush (-3), 2) := by decide +kernel
theorem dX9_back_34 : decode cX9_back 34 = .ok (.ireturn, 1) := by decide +kernel
theorem dX9_back_35 : decode cX9_back 35 = .ok (.aload_n 0, 1) := by decide +kernel
theorem dX9_back_36 : decode cX9_back 36 = .ok (.dup, 1) := by decide +kernel
theorem dX9_back_37 : decode cX9_back 37 = .ok (.getfield 151, 3) := by decide +kernel
theorem dX9_back_40 : decode cX9_back 40 = .ok (.iload_n 1, 1) := by decide +kernel
theorem dX9_back_41 : decode cX9_back 41 = .ok (.ifCond .ne 7, 3) := by decide +kernel
theorem dX9_back_44 : decode cX9_back 44 = .ok (.iconst 1, 1) := by decide +kernel
theorem dX9_back_45 : decode cX9_back 45 = .ok (.goto 4, 3) := by decide +kernel
theorem dX9_back_48 : decode cX9_back 48 = .ok (.iconst 0, 1) := by decide +kernel
theorem dX9_back_49 : decode cX9_back 49 = .ok (.isub, 1) := by decide +kernel
theorem dX9_back_50 : decode cX9_back 50 = .ok (.putfield 151, 3) := by decide +kernel
theorem dX9_back_53 : decode cX9_back 53 = .ok (.aload_n 0, 1) := by decide +kernel
theorem dX9_back_54 : decode cX9_back 54 = .ok (.dup, 1) := by decide +kernel
theorem dX9_back_55 : decode cX9_back 55 = .ok (.getfield 158, 3) := by decide +kernel
theorem dX9_back_58 : decode cX9_back 58 = .ok (.iload_n 1, 1) := by decide +kernel
theorem dX9_back_59 : decode cX9_back 59 = .ok (.iconst 1, 1) := by decide +kernel
theorem dX9_back_60 : decode cX9_back 60 = .ok (.if_icmp .ne 7, 3) := by decide +kernel
theorem dX9_back_63 : decode cX9_back 63 = .ok (.iconst 1, 1) := by decide +kernel
theorem dX9_back_64 : decode cX9_back 64 = .ok (.goto 4, 3) := by decide +kernel
theorem dX9_back_67 : decode cX9_back 67 = .ok (.iconst 0, 1) := by decide +kernel
theorem dX9_back_68 : decode cX9_back 68 = .ok (.isub, 1) := by decide +kernel
theorem dX9_back_69 : decode cX9_back 69 = .ok (.putfield 158, 3) := by decide +kernel
theorem dX9_back_72 : decode cX9_back 72 = .ok (.iload_n 2, 1) := by decide +kernel
theorem dX9_back_73 : decode cX9_back 73 = .ok (.iconst 1, 1) := by decide +kernel
theorem dX9_back_74 : decode cX9_back 74 = .ok (.isub, 1) := by decide +kernel
theorem dX9_back_75 : decode cX9_back 75 = .ok (.ireturn, 1) := by decide +kernel
theorem dX9_read_0 : decode cX9_read 0 = .ok (.iload_n 1, 1) := by decide +kernel
theorem dX9_read_1 : decode cX9_read 1 = .ok (.invokestatic 161, 3) := by decide +kernel
theorem dX9_read_4 : decode cX9_read 4 = .ok (.ifCond .ne 6, 3) := by decide +kernel
theorem dX9_read_7 : decode cX9_read 7 = .ok (.bipush (-2), 2) := by decide +kernel
theorem dX9_read_9 : decode cX9_read 9 = .ok (.ireturn, 1) := by decide +kernel
theorem dX9_read_10 : decode cX9_read 10 = .ok (.aload_n 0, 1) := by decide +kernel
theorem dX9_read_11 : decode cX9_read 11 = .ok (.getfield 80, 3) := by decide +kernel
theorem dX9_read_14 : decode cX9_read 14 = .ok (.iload_n 1, 1) := by decide +kernel
theorem dX9_read_15 : decode cX9_read 15 = .ok (.baload, 1) := by decide +kernel
theorem dX9_read_16 : decode cX9_read 16 = .ok (.ifCond .ne 9, 3) := by decide +kernel
theorem dX9_read_19 : decode cX9_read 19 = .ok (.aload_n 0, 1) := by decide +kernel
theorem dX9_read_20 : decode cX9_read 20 = .ok (.iconst 1, 1) := by decide +kernel
theorem dX9_read_21 : decode cX9_read 21 = .ok (.invokevirtual 164, 3) := by decide +kernel
theorem dX9_read_24 : decode cX9_read 24 = .ok (.ireturn, 1) := by decide +kernel
theorem dX9_read_25 : decode cX9_read 25 = .ok (.iconst 0, 1) := by decide +kernel
theorem dX9_read_26 : decode cX9_read 26 = .ok (.istore_n 2, 1) := by decide +kernel
theorem dX9_read_27 : decode cX9_read 27 = .ok (.iconst 3, 1) := by decide +kernel
theorem dX9_read_28 : decode cX9_read 28 = .ok (.iload_n 2, 1) := by decide +kernel
theorem dX9_read_29 : decode cX9_read 29 = .ok (.imul, 1) := by decide +kernel
theorem dX9_read_30 : decode cX9_read 30 = .ok (.iconst 2, 1) := by decide +kernel
theorem dX9_read_31 : decode cX9_read 31 = .ok (.iadd, 1) := by decide +kernel
theorem dX9_read_32 : decode cX9_read 32 = .ok (.aload_n 0, 1) := by decide +kernel
theorem dX9_read_33 : decode cX9_read 33 = .ok (.getfield 86, 3) := by decide +kernel
theorem dX9_read_36 : decode cX9_read 36 = .ok (.iload_n 1, 1) := by decide +kernel
theorem dX9_read_37 : decode cX9_read 37 = .ok (.iaload, 1) := by decide +kernel
theorem dX9_read_38 : decode cX9_read 38 = .ok (.if_icmp .ge 59, 3) := by decide +kernel
theorem dX9_read_41 : decode cX9_read 41 = .ok (.aload_n 0, 1) := by decide +kernel
theorem dX9_read_42 : decode cX9_read 42 = .ok (.aload_n 0, 1) := by decide +kernel
theorem dX9_read_43 : decode cX9_read 43 = .ok (.getfield 89, 3) := by decide +kernel
theorem dX9_read_46 : decode cX9_read 46 = .ok (.bipush 60, 2) := by decide +kernel
theorem dX9_read_48 : decode cX9_read 48 = .ok (.iload_n 1, 1) := by decide +kernel
theorem dX9_read_49 : decode cX9_read 49 = .ok (.imul, 1) := by decide +kernel
theorem dX9_read_50 : decode cX9_read 50 = .ok (.iconst 3, 1) := by decide +kernel
theorem dX9_read_51 : decode cX9_read 51 = .ok (.iload_n 2, 1) := by decide +kernel
theorem dX9_read_52 : decode cX9_read 52 = .ok (.imul, 1) := by decide +kernel
theorem dX9_read_53 : decode cX9_read 53 = .ok (.iadd, 1) := by decide +kernel
theorem dX9_read_54 : decode cX9_read 54 = .ok (.iaload, 1) := by decide +kernel
theorem dX9_read_55 : decode cX9_read 55 = .ok (.aload_n 0, 1) := by decide +kernel
theorem dX9_read_56 : decode cX9_read 56 = .ok (.getfield 89, 3) := by decide +kernel
theorem dX9_read_59 : decode cX9_read 59 = .ok (.bipush 60, 2) := by decide +kernel
theorem dX9_read_61 : decode cX9_read 61 = .ok (.iload_n 1, 1) := by decide +kernel
theorem dX9_read_62 : decode cX9_read 62 = .ok (.imul, 1) := by decide +kernel
theorem dX9_read_63 : decode cX9_read 63 = .ok (.iconst 3, 1) := by decide +kernel
theorem dX9_read_64 : decode cX9_read 64 = .ok (.iload_n 2, 1) := by decide +kernel
theorem dX9_read_65 : decode cX9_read 65 = .ok (.imul, 1) := by decide +kernel
theorem dX9_read_66 : decode cX9_read 66 = .ok (.iadd, 1) := by decide +kernel
theorem dX9_read_67 : decode cX9_read 67 = .ok (.iconst 1, 1) := by decide +kernel
theorem dX9_read_68 : decode cX9_read 68 = .ok (.iadd, 1) := by decide +kernel
theorem dX9_read_69 : decode cX9_read 69 = .ok (.iaload, 1) := by decide +kernel
theorem dX9_read_70 : decode cX9_read 70 = .ok (.aload_n 0, 1) := by decide +kernel
theorem dX9_read_71 : decode cX9_read 71 = .ok (.getfield 89, 3) := by decide +kernel
theorem dX9_read_74 : decode cX9_read 74 = .ok (.bipush 60, 2) := by decide +kernel
theorem dX9_read_76 : decode cX9_read 76 = .ok (.iload_n 1, 1) := by decide +kernel
theorem dX9_read_77 : decode cX9_read 77 = .ok (.imul, 1) := by decide +kernel
theorem dX9_read_78 : decode cX9_read 78 = .ok (.iconst 3, 1) := by decide +kernel
theorem dX9_read_79 : decode cX9_read 79 = .ok (.iload_n 2, 1) := by decide +kernel
theorem dX9_read_80 : decode cX9_read 80 = .ok (.imul, 1) := by decide +kernel
theorem dX9_read_81 : decode cX9_read 81 = .ok (.iadd, 1) := by decide +kernel
theorem dX9_read_82 : decode cX9_read 82 = .ok (.iconst 2, 1) := by decide +kernel
theorem dX9_read_83 : decode cX9_read 83 = .ok (.iadd, 1) := by decide +kernel
theorem dX9_read_84 : decode cX9_read 84 = .ok (.iaload, 1) := by decide +kernel
theorem dX9_read_85 : decode cX9_read 85 = .ok (.invokevirtual 167, 3) := by decide +kernel
theorem dX9_read_88 : decode cX9_read 88 = .ok (.ifCond .le 9, 3) := by decide +kernel
theorem dX9_read_91 : decode cX9_read 91 = .ok (.iinc 2 1, 3) := by decide +kernel
theorem dX9_read_94 : decode cX9_read 94 = .ok (.goto (-67), 3) := by decide +kernel
theorem dX9_read_97 : decode cX9_read 97 = .ok (.iload_n 2, 1) := by decide +kernel
theorem dX9_read_98 : decode cX9_read 98 = .ok (.ireturn, 1) := by decide +kernel
theorem dX9_asTold_0 : decode cX9_asTold 0 = .ok (.aload_n 0, 1) := by decide +kernel
theorem dX9_asTold_1 : decode cX9_asTold 1 = .ok (.aload_n 0, 1) := by decide +kernel
theorem dX9_asTold_2 : decode cX9_asTold 2 = .ok (.getfield 151, 3) := by decide +kernel
theorem dX9_asTold_5 : decode cX9_asTold 5 = .ok (.putfield 170, 3) := by decide +kernel
theorem dX9_asTold_8 : decode cX9_asTold 8 = .ok (.aload_n 0, 1) := by decide +kernel
theorem dX9_asTold_9 : decode cX9_asTold 9 = .ok (.aload_n 0, 1) := by decide +kernel
theorem dX9_asTold_10 : decode cX9_asTold 10 = .ok (.getfield 158, 3) := by decide +kernel
theorem dX9_asTold_13 : decode cX9_asTold 13 = .ok (.putfield 173, 3) := by decide +kernel
theorem dX9_asTold_16 : decode cX9_asTold 16 = .ok (.aload_n 0, 1) := by decide +kernel
theorem dX9_asTold_17 : decode cX9_asTold 17 = .ok (.iconst 0, 1) := by decide +kernel
theorem dX9_asTold_18 : decode cX9_asTold 18 = .ok (.putfield 176, 3) := by decide +kernel
theorem dX9_asTold_21 : decode cX9_asTold 21 = .ok (.aload_n 0, 1) := by decide +kernel
theorem dX9_asTold_22 : decode cX9_asTold 22 = .ok (.iconst 0, 1) := by decide +kernel
theorem dX9_asTold_23 : decode cX9_asTold 23 = .ok (.putfield 179, 3) := by decide +kernel
theorem dX9_asTold_26 : decode cX9_asTold 26 = .ok (.return_, 1) := by decide +kernel
theorem dX9_takesOut_0 : decode cX9_takesOut 0 = .ok (.iload_n 2, 1) := by decide +kernel
theorem dX9_takesOut_1 : decode cX9_takesOut 1 = .ok (.istore_n 3, 1) := by decide +kernel
theorem dX9_takesOut_2 : decode cX9_takesOut 2 = .ok (.iload_n 3, 1) := by decide +kernel
theorem dX9_takesOut_3 : decode cX9_takesOut 3 = .ok (.aload_n 0, 1) := by decide +kernel
theorem dX9_takesOut_4 : decode cX9_takesOut 4 = .ok (.getfield 49, 3) := by decide +kernel
theorem dX9_takesOut_7 : decode cX9_takesOut 7 = .ok (.iload_n 1, 1) := by decide +kernel
theorem dX9_takesOut_8 : decode cX9_takesOut 8 = .ok (.iaload, 1) := by decide +kernel
theorem dX9_takesOut_9 : decode cX9_takesOut 9 = .ok (.iconst 1, 1) := by decide +kernel
theorem dX9_takesOut_10 : decode cX9_takesOut 10 = .ok (.isub, 1) := by decide +kernel
theorem dX9_takesOut_11 : decode cX9_takesOut 11 = .ok (.if_icmp .ge 57, 3) := by decide +kernel
theorem dX9_takesOut_14 : decode cX9_takesOut 14 = .ok (.aload_n 0, 1) := by decide +kernel
theorem dX9_takesOut_15 : decode cX9_takesOut 15 = .ok (.getfield 52, 3) := by decide +kernel
theorem dX9_takesOut_18 : decode cX9_takesOut 18 = .ok (.bipush 6, 2) := by decide +kernel
theorem dX9_takesOut_20 : decode cX9_takesOut 20 = .ok (.iload_n 1, 1) := by decide +kernel
theorem dX9_takesOut_21 : decode cX9_takesOut 21 = .ok (.imul, 1) := by decide +kernel
theorem dX9_takesOut_22 : decode cX9_takesOut 22 = .ok (.iload_n 3, 1) := by decide +kernel
theorem dX9_takesOut_23 : decode cX9_takesOut 23 = .ok (.iadd, 1) := by decide +kernel
theorem dX9_takesOut_24 : decode cX9_takesOut 24 = .ok (.aload_n 0, 1) := by decide +kernel
theorem dX9_takesOut_25 : decode cX9_takesOut 25 = .ok (.getfield 52, 3) := by decide +kernel
theorem dX9_takesOut_28 : decode cX9_takesOut 28 = .ok (.bipush 6, 2) := by decide +kernel
theorem dX9_takesOut_30 : decode cX9_takesOut 30 = .ok (.iload_n 1, 1) := by decide +kernel
theorem dX9_takesOut_31 : decode cX9_takesOut 31 = .ok (.imul, 1) := by decide +kernel
theorem dX9_takesOut_32 : decode cX9_takesOut 32 = .ok (.iload_n 3, 1) := by decide +kernel
theorem dX9_takesOut_33 : decode cX9_takesOut 33 = .ok (.iadd, 1) := by decide +kernel
theorem dX9_takesOut_34 : decode cX9_takesOut 34 = .ok (.iconst 1, 1) := by decide +kernel
theorem dX9_takesOut_35 : decode cX9_takesOut 35 = .ok (.iadd, 1) := by decide +kernel
theorem dX9_takesOut_36 : decode cX9_takesOut 36 = .ok (.iaload, 1) := by decide +kernel
theorem dX9_takesOut_37 : decode cX9_takesOut 37 = .ok (.iastore, 1) := by decide +kernel
theorem dX9_takesOut_38 : decode cX9_takesOut 38 = .ok (.aload_n 0, 1) := by decide +kernel
theorem dX9_takesOut_39 : decode cX9_takesOut 39 = .ok (.getfield 55, 3) := by decide +kernel
theorem dX9_takesOut_42 : decode cX9_takesOut 42 = .ok (.bipush 6, 2) := by decide +kernel
theorem dX9_takesOut_44 : decode cX9_takesOut 44 = .ok (.iload_n 1, 1) := by decide +kernel
theorem dX9_takesOut_45 : decode cX9_takesOut 45 = .ok (.imul, 1) := by decide +kernel
theorem dX9_takesOut_46 : decode cX9_takesOut 46 = .ok (.iload_n 3, 1) := by decide +kernel
theorem dX9_takesOut_47 : decode cX9_takesOut 47 = .ok (.iadd, 1) := by decide +kernel
theorem dX9_takesOut_48 : decode cX9_takesOut 48 = .ok (.aload_n 0, 1) := by decide +kernel
theorem dX9_takesOut_49 : decode cX9_takesOut 49 = .ok (.getfield 55, 3) := by decide +kernel
theorem dX9_takesOut_52 : decode cX9_takesOut 52 = .ok (.bipush 6, 2) := by decide +kernel
theorem dX9_takesOut_54 : decode cX9_takesOut 54 = .ok (.iload_n 1, 1) := by decide +kernel
theorem dX9_takesOut_55 : decode cX9_takesOut 55 = .ok (.imul, 1) := by decide +kernel
theorem dX9_takesOut_56 : decode cX9_takesOut 56 = .ok (.iload_n 3, 1) := by decide +kernel
theorem dX9_takesOut_57 : decode cX9_takesOut 57 = .ok (.iadd, 1) := by decide +kernel
theorem dX9_takesOut_58 : decode cX9_takesOut 58 = .ok (.iconst 1, 1) := by decide +kernel
theorem dX9_takesOut_59 : decode cX9_takesOut 59 = .ok (.iadd, 1) := by decide +kernel
theorem dX9_takesOut_60 : decode cX9_takesOut 60 = .ok (.iaload, 1) := by decide +kernel
theorem dX9_takesOut_61 : decode cX9_takesOut 61 = .ok (.iastore, 1) := by decide +kernel
theorem dX9_takesOut_62 : decode cX9_takesOut 62 = .ok (.iinc 3 1, 3) := by decide +kernel
theorem dX9_takesOut_65 : decode cX9_takesOut 65 = .ok (.goto (-63), 3) := by decide +kernel
theorem dX9_takesOut_68 : decode cX9_takesOut 68 = .ok (.aload_n 0, 1) := by decide +kernel
theorem dX9_takesOut_69 : decode cX9_takesOut 69 = .ok (.getfield 49, 3) := by decide +kernel
theorem dX9_takesOut_72 : decode cX9_takesOut 72 = .ok (.iload_n 1, 1) := by decide +kernel
theorem dX9_takesOut_73 : decode cX9_takesOut 73 = .ok (.dup2, 1) := by decide +kernel
theorem dX9_takesOut_74 : decode cX9_takesOut 74 = .ok (.iaload, 1) := by decide +kernel
theorem dX9_takesOut_75 : decode cX9_takesOut 75 = .ok (.iconst 1, 1) := by decide +kernel
theorem dX9_takesOut_76 : decode cX9_takesOut 76 = .ok (.isub, 1) := by decide +kernel
theorem dX9_takesOut_77 : decode cX9_takesOut 77 = .ok (.iastore, 1) := by decide +kernel
theorem dX9_takesOut_78 : decode cX9_takesOut 78 = .ok (.return_, 1) := by decide +kernel
theorem dX9_putsIn_0 : decode cX9_putsIn 0 = .ok (.aload_n 0, 1) := by decide +kernel
theorem dX9_putsIn_1 : decode cX9_putsIn 1 = .ok (.getfield 49, 3) := by decide +kernel
theorem dX9_putsIn_4 : decode cX9_putsIn 4 = .ok (.iload_n 1, 1) := by decide +kernel
theorem dX9_putsIn_5 : decode cX9_putsIn 5 = .ok (.iaload, 1) := by decide +kernel
theorem dX9_putsIn_6 : decode cX9_putsIn 6 = .ok (.istore 5, 2) := by decide +kernel
theorem dX9_putsIn_8 : decode cX9_putsIn 8 = .ok (.iload 5, 2) := by decide +kernel
theorem dX9_putsIn_10 : decode cX9_putsIn 10 = .ok (.iload_n 2, 1) := by decide +kernel
theorem dX9_putsIn_11 : decode cX9_putsIn 11 = .ok (.if_icmp .le 61, 3) := by decide +kernel
theorem dX9_putsIn_14 : decode cX9_putsIn 14 = .ok (.aload_n 0, 1) := by decide +kernel
theorem dX9_putsIn_15 : decode cX9_putsIn 15 = .ok (.getfield 52, 3) := by decide +kernel
theorem dX9_putsIn_18 : decode cX9_putsIn 18 = .ok (.bipush 6, 2) := by decide +kernel
theorem dX9_putsIn_20 : decode cX9_putsIn 20 = .ok (.iload_n 1, 1) := by decide +kernel
theorem dX9_putsIn_21 : decode cX9_putsIn 21 = .ok (.imul, 1) := by decide +kernel
theorem dX9_putsIn_22 : decode cX9_putsIn 22 = .ok (.iload 5, 2) := by decide +kernel
theorem dX9_putsIn_24 : decode cX9_putsIn 24 = .ok (.iadd, 1) := by decide +kernel
theorem dX9_putsIn_25 : decode cX9_putsIn 25 = .ok (.aload_n 0, 1) := by decide +kernel
theorem dX9_putsIn_26 : decode cX9_putsIn 26 = .ok (.getfield 52, 3) := by decide +kernel
theorem dX9_putsIn_29 : decode cX9_putsIn 29 = .ok (.bipush 6, 2) := by decide +kernel
theorem dX9_putsIn_31 : decode cX9_putsIn 31 = .ok (.iload_n 1, 1) := by decide +kernel
theorem dX9_putsIn_32 : decode cX9_putsIn 32 = .ok (.imul, 1) := by decide +kernel
theorem dX9_putsIn_33 : decode cX9_putsIn 33 = .ok (.iload 5, 2) := by decide +kernel
theorem dX9_putsIn_35 : decode cX9_putsIn 35 = .ok (.iadd, 1) := by decide +kernel
theorem dX9_putsIn_36 : decode cX9_putsIn 36 = .ok (.iconst 1, 1) := by decide +kernel
theorem dX9_putsIn_37 : decode cX9_putsIn 37 = .ok (.isub, 1) := by decide +kernel
theorem dX9_putsIn_38 : decode cX9_putsIn 38 = .ok (.iaload, 1) := by decide +kernel
theorem dX9_putsIn_39 : decode cX9_putsIn 39 = .ok (.iastore, 1) := by decide +kernel
theorem dX9_putsIn_40 : decode cX9_putsIn 40 = .ok (.aload_n 0, 1) := by decide +kernel
theorem dX9_putsIn_41 : decode cX9_putsIn 41 = .ok (.getfield 55, 3) := by decide +kernel
theorem dX9_putsIn_44 : decode cX9_putsIn 44 = .ok (.bipush 6, 2) := by decide +kernel
theorem dX9_putsIn_46 : decode cX9_putsIn 46 = .ok (.iload_n 1, 1) := by decide +kernel
theorem dX9_putsIn_47 : decode cX9_putsIn 47 = .ok (.imul, 1) := by decide +kernel
theorem dX9_putsIn_48 : decode cX9_putsIn 48 = .ok (.iload 5, 2) := by decide +kernel
theorem dX9_putsIn_50 : decode cX9_putsIn 50 = .ok (.iadd, 1) := by decide +kernel
theorem dX9_putsIn_51 : decode cX9_putsIn 51 = .ok (.aload_n 0, 1) := by decide +kernel
theorem dX9_putsIn_52 : decode cX9_putsIn 52 = .ok (.getfield 55, 3) := by decide +kernel
theorem dX9_putsIn_55 : decode cX9_putsIn 55 = .ok (.bipush 6, 2) := by decide +kernel
theorem dX9_putsIn_57 : decode cX9_putsIn 57 = .ok (.iload_n 1, 1) := by decide +kernel
theorem dX9_putsIn_58 : decode cX9_putsIn 58 = .ok (.imul, 1) := by decide +kernel
theorem dX9_putsIn_59 : decode cX9_putsIn 59 = .ok (.iload 5, 2) := by decide +kernel
theorem dX9_putsIn_61 : decode cX9_putsIn 61 = .ok (.iadd, 1) := by decide +kernel
theorem dX9_putsIn_62 : decode cX9_putsIn 62 = .ok (.iconst 1, 1) := by decide +kernel
theorem dX9_putsIn_63 : decode cX9_putsIn 63 = .ok (.isub, 1) := by decide +kernel
theorem dX9_putsIn_64 : decode cX9_putsIn 64 = .ok (.iaload, 1) := by decide +kernel
theorem dX9_putsIn_65 : decode cX9_putsIn 65 = .ok (.iastore, 1) := by decide +kernel
theorem dX9_putsIn_66 : decode cX9_putsIn 66 = .ok (.iinc 5 (-1), 3) := by decide +kernel
theorem dX9_putsIn_69 : decode cX9_putsIn 69 = .ok (.goto (-61), 3) := by decide +kernel
theorem dX9_putsIn_72 : decode cX9_putsIn 72 = .ok (.aload_n 0, 1) := by decide +kernel
theorem dX9_putsIn_73 : decode cX9_putsIn 73 = .ok (.getfield 52, 3) := by decide +kernel
theorem dX9_putsIn_76 : decode cX9_putsIn 76 = .ok (.bipush 6, 2) := by decide +kernel
theorem dX9_putsIn_78 : decode cX9_putsIn 78 = .ok (.iload_n 1, 1) := by decide +kernel
theorem dX9_putsIn_79 : decode cX9_putsIn 79 = .ok (.imul, 1) := by decide +kernel
theorem dX9_putsIn_80 : decode cX9_putsIn 80 = .ok (.iload_n 2, 1) := by decide +kernel
theorem dX9_putsIn_81 : decode cX9_putsIn 81 = .ok (.iadd, 1) := by decide +kernel
theorem dX9_putsIn_82 : decode cX9_putsIn 82 = .ok (.iload_n 3, 1) := by decide +kernel
theorem dX9_putsIn_83 : decode cX9_putsIn 83 = .ok (.iastore, 1) := by decide +kernel
theorem dX9_putsIn_84 : decode cX9_putsIn 84 = .ok (.aload_n 0, 1) := by decide +kernel
theorem dX9_putsIn_85 : decode cX9_putsIn 85 = .ok (.getfield 55, 3) := by decide +kernel
theorem dX9_putsIn_88 : decode cX9_putsIn 88 = .ok (.bipush 6, 2) := by decide +kernel
theorem dX9_putsIn_90 : decode cX9_putsIn 90 = .ok (.iload_n 1, 1) := by decide +kernel
theorem dX9_putsIn_91 : decode cX9_putsIn 91 = .ok (.imul, 1) := by decide +kernel
theorem dX9_putsIn_92 : decode cX9_putsIn 92 = .ok (.iload_n 2, 1) := by decide +kernel
theorem dX9_putsIn_93 : decode cX9_putsIn 93 = .ok (.iadd, 1) := by decide +kernel
theorem dX9_putsIn_94 : decode cX9_putsIn 94 = .ok (.iload 4, 2) := by decide +kernel
theorem dX9_putsIn_96 : decode cX9_putsIn 96 = .ok (.iastore, 1) := by decide +kernel
theorem dX9_putsIn_97 : decode cX9_putsIn 97 = .ok (.aload_n 0, 1) := by decide +kernel
theorem dX9_putsIn_98 : decode cX9_putsIn 98 = .ok (.getfield 49, 3) := by decide +kernel
theorem dX9_putsIn_101 : decode cX9_putsIn 101 = .ok (.iload_n 1, 1) := by decide +kernel
theorem dX9_putsIn_102 : decode cX9_putsIn 102 = .ok (.dup2, 1) := by decide +kernel
theorem dX9_putsIn_103 : decode cX9_putsIn 103 = .ok (.iaload, 1) := by decide +kernel
theorem dX9_putsIn_104 : decode cX9_putsIn 104 = .ok (.iconst 1, 1) := by decide +kernel
theorem dX9_putsIn_105 : decode cX9_putsIn 105 = .ok (.iadd, 1) := by decide +kernel
theorem dX9_putsIn_106 : decode cX9_putsIn 106 = .ok (.iastore, 1) := by decide +kernel
theorem dX9_putsIn_107 : decode cX9_putsIn 107 = .ok (.return_, 1) := by decide +kernel
theorem dX9_fades_0 : decode cX9_fades 0 = .ok (.iconst 0, 1) := by decide +kernel
theorem dX9_fades_1 : decode cX9_fades 1 = .ok (.istore_n 2, 1) := by decide +kernel
theorem dX9_fades_2 : decode cX9_fades 2 = .ok (.iload_n 2, 1) := by decide +kernel
theorem dX9_fades_3 : decode cX9_fades 3 = .ok (.aload_n 0, 1) := by decide +kernel
theorem dX9_fades_4 : decode cX9_fades 4 = .ok (.getfield 49, 3) := by decide +kernel
theorem dX9_fades_7 : decode cX9_fades 7 = .ok (.iload_n 1, 1) := by decide +kernel
theorem dX9_fades_8 : decode cX9_fades 8 = .ok (.iaload, 1) := by decide +kernel
theorem dX9_fades_9 : decode cX9_fades 9 = .ok (.if_icmp .ge 62, 3) := by decide +kernel
theorem dX9_fades_12 : decode cX9_fades 12 = .ok (.aload_n 0, 1) := by decide +kernel
theorem dX9_fades_13 : decode cX9_fades 13 = .ok (.getfield 55, 3) := by decide +kernel
theorem dX9_fades_16 : decode cX9_fades 16 = .ok (.bipush 6, 2) := by decide +kernel
theorem dX9_fades_18 : decode cX9_fades 18 = .ok (.iload_n 1, 1) := by decide +kernel
theorem dX9_fades_19 : decode cX9_fades 19 = .ok (.imul, 1) := by decide +kernel
theorem dX9_fades_20 : decode cX9_fades 20 = .ok (.iload_n 2, 1) := by decide +kernel
theorem dX9_fades_21 : decode cX9_fades 21 = .ok (.iadd, 1) := by decide +kernel
theorem dX9_fades_22 : decode cX9_fades 22 = .ok (.dup2, 1) := by decide +kernel
theorem dX9_fades_23 : decode cX9_fades 23 = .ok (.iaload, 1) := by decide +kernel
theorem dX9_fades_24 : decode cX9_fades 24 = .ok (.aload_n 0, 1) := by decide +kernel
theorem dX9_fades_25 : decode cX9_fades 25 = .ok (.getfield 28, 3) := by decide +kernel
theorem dX9_fades_28 : decode cX9_fades 28 = .ok (.aload_n 0, 1) := by decide +kernel
theorem dX9_fades_29 : decode cX9_fades 29 = .ok (.getfield 52, 3) := by decide +kernel
theorem dX9_fades_32 : decode cX9_fades 32 = .ok (.bipush 6, 2) := by decide +kernel
theorem dX9_fades_34 : decode cX9_fades 34 = .ok (.iload_n 1, 1) := by decide +kernel
theorem dX9_fades_35 : decode cX9_fades 35 = .ok (.imul, 1) := by decide +kernel
theorem dX9_fades_36 : decode cX9_fades 36 = .ok (.iload_n 2, 1) := by decide +kernel
theorem dX9_fades_37 : decode cX9_fades 37 = .ok (.iadd, 1) := by decide +kernel
theorem dX9_fades_38 : decode cX9_fades 38 = .ok (.iaload, 1) := by decide +kernel
theorem dX9_fades_39 : decode cX9_fades 39 = .ok (.iaload, 1) := by decide +kernel
theorem dX9_fades_40 : decode cX9_fades 40 = .ok (.isub, 1) := by decide +kernel
theorem dX9_fades_41 : decode cX9_fades 41 = .ok (.iastore, 1) := by decide +kernel
theorem dX9_fades_42 : decode cX9_fades 42 = .ok (.aload_n 0, 1) := by decide +kernel
theorem dX9_fades_43 : decode cX9_fades 43 = .ok (.getfield 55, 3) := by decide +kernel
theorem dX9_fades_46 : decode cX9_fades 46 = .ok (.bipush 6, 2) := by decide +kernel
theorem dX9_fades_48 : decode cX9_fades 48 = .ok (.iload_n 1, 1) := by decide +kernel
theorem dX9_fades_49 : decode cX9_fades 49 = .ok (.imul, 1) := by decide +kernel
theorem dX9_fades_50 : decode cX9_fades 50 = .ok (.iload_n 2, 1) := by decide +kernel
theorem dX9_fades_51 : decode cX9_fades 51 = .ok (.iadd, 1) := by decide +kernel
theorem dX9_fades_52 : decode cX9_fades 52 = .ok (.iaload, 1) := by decide +kernel
theorem dX9_fades_53 : decode cX9_fades 53 = .ok (.ifCond .gt 12, 3) := by decide +kernel
theorem dX9_fades_56 : decode cX9_fades 56 = .ok (.aload_n 0, 1) := by decide +kernel
theorem dX9_fades_57 : decode cX9_fades 57 = .ok (.iload_n 1, 1) := by decide +kernel
theorem dX9_fades_58 : decode cX9_fades 58 = .ok (.iload_n 2, 1) := by decide +kernel
theorem dX9_fades_59 : decode cX9_fades 59 = .ok (.invokevirtual 182, 3) := by decide +kernel
theorem dX9_fades_62 : decode cX9_fades 62 = .ok (.goto (-60), 3) := by decide +kernel
theorem dX9_fades_65 : decode cX9_fades 65 = .ok (.iinc 2 1, 3) := by decide +kernel
theorem dX9_fades_68 : decode cX9_fades 68 = .ok (.goto (-66), 3) := by decide +kernel
theorem dX9_fades_71 : decode cX9_fades 71 = .ok (.return_, 1) := by decide +kernel
theorem dX9_sits_0 : decode cX9_sits 0 = .ok (.aload_n 0, 1) := by decide +kernel
theorem dX9_sits_1 : decode cX9_sits 1 = .ok (.iload_n 1, 1) := by decide +kernel
theorem dX9_sits_2 : decode cX9_sits 2 = .ok (.invokevirtual 133, 3) := by decide +kernel
theorem dX9_sits_5 : decode cX9_sits 5 = .ok (.istore_n 3, 1) := by decide +kernel
theorem dX9_sits_6 : decode cX9_sits 6 = .ok (.aload_n 0, 1) := by decide +kernel
theorem dX9_sits_7 : decode cX9_sits 7 = .ok (.getfield 49, 3) := by decide +kernel
theorem dX9_sits_10 : decode cX9_sits 10 = .ok (.iload_n 2, 1) := by decide +kernel
theorem dX9_sits_11 : decode cX9_sits 11 = .ok (.iaload, 1) := by decide +kernel
theorem dX9_sits_12 : decode cX9_sits 12 = .ok (.iconst 1, 1) := by decide +kernel
theorem dX9_sits_13 : decode cX9_sits 13 = .ok (.isub, 1) := by decide +kernel
theorem dX9_sits_14 : decode cX9_sits 14 = .ok (.istore 4, 2) := by decide +kernel
theorem dX9_sits_16 : decode cX9_sits 16 = .ok (.iload 4, 2) := by decide +kernel
theorem dX9_sits_18 : decode cX9_sits 18 = .ok (.ifCond .lt 32, 3) := by decide +kernel
theorem dX9_sits_21 : decode cX9_sits 21 = .ok (.aload_n 0, 1) := by decide +kernel
theorem dX9_sits_22 : decode cX9_sits 22 = .ok (.getfield 52, 3) := by decide +kernel
theorem dX9_sits_25 : decode cX9_sits 25 = .ok (.bipush 6, 2) := by decide +kernel
theorem dX9_sits_27 : decode cX9_sits 27 = .ok (.iload_n 2, 1) := by decide +kernel
theorem dX9_sits_28 : decode cX9_sits 28 = .ok (.imul, 1) := by decide +kernel
theorem dX9_sits_29 : decode cX9_sits 29 = .ok (.iload 4, 2) := by decide +kernel
theorem dX9_sits_31 : decode cX9_sits 31 = .ok (.iadd, 1) := by decide +kernel
theorem dX9_sits_32 : decode cX9_sits 32 = .ok (.iaload, 1) := by decide +kernel
theorem dX9_sits_33 : decode cX9_sits 33 = .ok (.iload_n 3, 1) := by decide +kernel
theorem dX9_sits_34 : decode cX9_sits 34 = .ok (.if_icmp .ne 10, 3) := by decide +kernel
theorem dX9_sits_37 : decode cX9_sits 37 = .ok (.aload_n 0, 1) := by decide +kernel
theorem dX9_sits_38 : decode cX9_sits 38 = .ok (.iload_n 2, 1) := by decide +kernel
theorem dX9_sits_39 : decode cX9_sits 39 = .ok (.iload 4, 2) := by decide +kernel
theorem dX9_sits_41 : decode cX9_sits 41 = .ok (.invokevirtual 182, 3) := by decide +kernel
theorem dX9_sits_44 : decode cX9_sits 44 = .ok (.iinc 4 (-1), 3) := by decide +kernel
theorem dX9_sits_47 : decode cX9_sits 47 = .ok (.goto (-31), 3) := by decide +kernel
theorem dX9_sits_50 : decode cX9_sits 50 = .ok (.aload_n 0, 1) := by decide +kernel
theorem dX9_sits_51 : decode cX9_sits 51 = .ok (.iload_n 2, 1) := by decide +kernel
theorem dX9_sits_52 : decode cX9_sits 52 = .ok (.aload_n 0, 1) := by decide +kernel
theorem dX9_sits_53 : decode cX9_sits 53 = .ok (.getfield 22, 3) := by decide +kernel
theorem dX9_sits_56 : decode cX9_sits 56 = .ok (.iload_n 2, 1) := by decide +kernel
theorem dX9_sits_57 : decode cX9_sits 57 = .ok (.iaload, 1) := by decide +kernel
theorem dX9_sits_58 : decode cX9_sits 58 = .ok (.iconst 1, 1) := by decide +kernel
theorem dX9_sits_59 : decode cX9_sits 59 = .ok (.if_icmp .ne 12, 3) := by decide +kernel
theorem dX9_sits_62 : decode cX9_sits 62 = .ok (.aload_n 0, 1) := by decide +kernel
theorem dX9_sits_63 : decode cX9_sits 63 = .ok (.getfield 49, 3) := by decide +kernel
theorem dX9_sits_66 : decode cX9_sits 66 = .ok (.iload_n 2, 1) := by decide +kernel
theorem dX9_sits_67 : decode cX9_sits 67 = .ok (.iaload, 1) := by decide +kernel
theorem dX9_sits_68 : decode cX9_sits 68 = .ok (.goto 4, 3) := by decide +kernel
theorem dX9_sits_71 : decode cX9_sits 71 = .ok (.iconst 0, 1) := by decide +kernel
theorem dX9_sits_72 : decode cX9_sits 72 = .ok (.iload_n 3, 1) := by decide +kernel
theorem dX9_sits_73 : decode cX9_sits 73 = .ok (.aload_n 0, 1) := by decide +kernel
theorem dX9_sits_74 : decode cX9_sits 74 = .ok (.getfield 25, 3) := by decide +kernel
theorem dX9_sits_77 : decode cX9_sits 77 = .ok (.iload_n 1, 1) := by decide +kernel
theorem dX9_sits_78 : decode cX9_sits 78 = .ok (.iaload, 1) := by decide +kernel
theorem dX9_sits_79 : decode cX9_sits 79 = .ok (.invokevirtual 186, 3) := by decide +kernel
theorem dX9_sits_82 : decode cX9_sits 82 = .ok (.aload_n 0, 1) := by decide +kernel
theorem dX9_sits_83 : decode cX9_sits 83 = .ok (.getfield 49, 3) := by decide +kernel
theorem dX9_sits_86 : decode cX9_sits 86 = .ok (.iload_n 2, 1) := by decide +kernel
theorem dX9_sits_87 : decode cX9_sits 87 = .ok (.iaload, 1) := by decide +kernel
theorem dX9_sits_88 : decode cX9_sits 88 = .ok (.aload_n 0, 1) := by decide +kernel
theorem dX9_sits_89 : decode cX9_sits 89 = .ok (.getfield 16, 3) := by decide +kernel
theorem dX9_sits_92 : decode cX9_sits 92 = .ok (.iload_n 2, 1) := by decide +kernel
theorem dX9_sits_93 : decode cX9_sits 93 = .ok (.iaload, 1) := by decide +kernel
theorem dX9_sits_94 : decode cX9_sits 94 = .ok (.if_icmp .le 30, 3) := by decide +kernel
theorem dX9_sits_97 : decode cX9_sits 97 = .ok (.aload_n 0, 1) := by decide +kernel
theorem dX9_sits_98 : decode cX9_sits 98 = .ok (.iload_n 2, 1) := by decide +kernel
theorem dX9_sits_99 : decode cX9_sits 99 = .ok (.aload_n 0, 1) := by decide +kernel
theorem dX9_sits_100 : decode cX9_sits 100 = .ok (.getfield 22, 3) := by decide +kernel
theorem dX9_sits_103 : decode cX9_sits 103 = .ok (.iload_n 2, 1) := by decide +kernel
theorem dX9_sits_104 : decode cX9_sits 104 = .ok (.iaload, 1) := by decide +kernel
theorem dX9_sits_105 : decode cX9_sits 105 = .ok (.iconst 1, 1) := by decide +kernel
theorem dX9_sits_106 : decode cX9_sits 106 = .ok (.if_icmp .ne 7, 3) := by decide +kernel
theorem dX9_sits_109 : decode cX9_sits 109 = .ok (.iconst 0, 1) := by decide +kernel
theorem dX9_sits_110 : decode cX9_sits 110 = .ok (.goto 11, 3) := by decide +kernel
theorem dX9_sits_113 : decode cX9_sits 113 = .ok (.aload_n 0, 1) := by decide +kernel
theorem dX9_sits_114 : decode cX9_sits 114 = .ok (.getfield 49, 3) := by decide +kernel
theorem dX9_sits_117 : decode cX9_sits 117 = .ok (.iload_n 2, 1) := by decide +kernel
theorem dX9_sits_118 : decode cX9_sits 118 = .ok (.iaload, 1) := by decide +kernel
theorem dX9_sits_119 : decode cX9_sits 119 = .ok (.iconst 1, 1) := by decide +kernel
theorem dX9_sits_120 : decode cX9_sits 120 = .ok (.isub, 1) := by decide +kernel
theorem dX9_sits_121 : decode cX9_sits 121 = .ok (.invokevirtual 182, 3) := by decide +kernel
theorem dX9_sits_124 : decode cX9_sits 124 = .ok (.return_, 1) := by decide +kernel
theorem dX9_airs_0 : decode cX9_airs 0 = .ok (.aload_n 0, 1) := by decide +kernel
theorem dX9_airs_1 : decode cX9_airs 1 = .ok (.getfield 49, 3) := by decide +kernel
theorem dX9_airs_4 : decode cX9_airs 4 = .ok (.iload_n 1, 1) := by decide +kernel
theorem dX9_airs_5 : decode cX9_airs 5 = .ok (.iaload, 1) := by decide +kernel
theorem dX9_airs_6 : decode cX9_airs 6 = .ok (.ifCond .le 9, 3) := by decide +kernel
theorem dX9_airs_9 : decode cX9_airs 9 = .ok (.aload_n 0, 1) := by decide +kernel
theorem dX9_airs_10 : decode cX9_airs 10 = .ok (.iload_n 1, 1) := by decide +kernel
theorem dX9_airs_11 : decode cX9_airs 11 = .ok (.iconst 0, 1) := by decide +kernel
theorem dX9_airs_12 : decode cX9_airs 12 = .ok (.invokevirtual 182, 3) := by decide +kernel
theorem dX9_airs_15 : decode cX9_airs 15 = .ok (.return_, 1) := by decide +kernel
theorem dX9_goesBy_0 : decode cX9_goesBy 0 = .ok (.iconst 0, 1) := by decide +kernel
theorem dX9_goesBy_1 : decode cX9_goesBy 1 = .ok (.istore_n 2, 1) := by decide +kernel
theorem dX9_goesBy_2 : decode cX9_goesBy 2 = .ok (.iload_n 2, 1) := by decide +kernel
theorem dX9_goesBy_3 : decode cX9_goesBy 3 = .ok (.aload_n 0, 1) := by decide +kernel
theorem dX9_goesBy_4 : decode cX9_goesBy 4 = .ok (.getfield 109, 3) := by decide +kernel
theorem dX9_goesBy_7 : decode cX9_goesBy 7 = .ok (.if_icmp .ge 14, 3) := by decide +kernel
theorem dX9_goesBy_10 : decode cX9_goesBy 10 = .ok (.aload_n 0, 1) := by decide +kernel
theorem dX9_goesBy_11 : decode cX9_goesBy 11 = .ok (.iload_n 2, 1) := by decide +kernel
theorem dX9_goesBy_12 : decode cX9_goesBy 12 = .ok (.invokevirtual 189, 3) := by decide +kernel
theorem dX9_goesBy_15 : decode cX9_goesBy 15 = .ok (.iinc 2 1, 3) := by decide +kernel
theorem dX9_goesBy_18 : decode cX9_goesBy 18 = .ok (.goto (-16), 3) := by decide +kernel
theorem dX9_goesBy_21 : decode cX9_goesBy 21 = .ok (.iconst 0, 1) := by decide +kernel
theorem dX9_goesBy_22 : decode cX9_goesBy 22 = .ok (.istore_n 2, 1) := by decide +kernel
theorem dX9_goesBy_23 : decode cX9_goesBy 23 = .ok (.iload_n 2, 1) := by decide +kernel
theorem dX9_goesBy_24 : decode cX9_goesBy 24 = .ok (.aload_n 0, 1) := by decide +kernel
theorem dX9_goesBy_25 : decode cX9_goesBy 25 = .ok (.getfield 170, 3) := by decide +kernel
theorem dX9_goesBy_28 : decode cX9_goesBy 28 = .ok (.if_icmp .ge 61, 3) := by decide +kernel
theorem dX9_goesBy_31 : decode cX9_goesBy 31 = .ok (.aload_n 0, 1) := by decide +kernel
theorem dX9_goesBy_32 : decode cX9_goesBy 32 = .ok (.getfield 34, 3) := by decide +kernel
theorem dX9_goesBy_35 : decode cX9_goesBy 35 = .ok (.iload_n 2, 1) := by decide +kernel
theorem dX9_goesBy_36 : decode cX9_goesBy 36 = .ok (.iaload, 1) := by decide +kernel
theorem dX9_goesBy_37 : decode cX9_goesBy 37 = .ok (.iload_n 1, 1) := by decide +kernel
theorem dX9_goesBy_38 : decode cX9_goesBy 38 = .ok (.if_icmp .ne 45, 3) := by decide +kernel
theorem dX9_goesBy_41 : decode cX9_goesBy 41 = .ok (.aload_n 0, 1) := by decide +kernel
theorem dX9_goesBy_42 : decode cX9_goesBy 42 = .ok (.getfield 37, 3) := by decide +kernel
theorem dX9_goesBy_45 : decode cX9_goesBy 45 = .ok (.iload_n 2, 1) := by decide +kernel
theorem dX9_goesBy_46 : decode cX9_goesBy 46 = .ok (.iaload, 1) := by decide +kernel
theorem dX9_goesBy_47 : decode cX9_goesBy 47 = .ok (.aload_n 0, 1) := by decide +kernel
theorem dX9_goesBy_48 : decode cX9_goesBy 48 = .ok (.getfield 113, 3) := by decide +kernel
theorem dX9_goesBy_51 : decode cX9_goesBy 51 = .ok (.if_icmp .ge 32, 3) := by decide +kernel
theorem dX9_goesBy_54 : decode cX9_goesBy 54 = .ok (.aload_n 0, 1) := by decide +kernel
theorem dX9_goesBy_55 : decode cX9_goesBy 55 = .ok (.getfield 40, 3) := by decide +kernel
theorem dX9_goesBy_58 : decode cX9_goesBy 58 = .ok (.iload_n 2, 1) := by decide +kernel
theorem dX9_goesBy_59 : decode cX9_goesBy 59 = .ok (.iaload, 1) := by decide +kernel
theorem dX9_goesBy_60 : decode cX9_goesBy 60 = .ok (.aload_n 0, 1) := by decide +kernel
theorem dX9_goesBy_61 : decode cX9_goesBy 61 = .ok (.getfield 109, 3) := by decide +kernel
theorem dX9_goesBy_64 : decode cX9_goesBy 64 = .ok (.if_icmp .ge 19, 3) := by decide +kernel
theorem dX9_goesBy_67 : decode cX9_goesBy 67 = .ok (.aload_n 0, 1) := by decide +kernel
theorem dX9_goesBy_68 : decode cX9_goesBy 68 = .ok (.aload_n 0, 1) := by decide +kernel
theorem dX9_goesBy_69 : decode cX9_goesBy 69 = .ok (.getfield 37, 3) := by decide +kernel
theorem dX9_goesBy_72 : decode cX9_goesBy 72 = .ok (.iload_n 2, 1) := by decide +kernel
theorem dX9_goesBy_73 : decode cX9_goesBy 73 = .ok (.iaload, 1) := by decide +kernel
theorem dX9_goesBy_74 : decode cX9_goesBy 74 = .ok (.aload_n 0, 1) := by decide +kernel
theorem dX9_goesBy_75 : decode cX9_goesBy 75 = .ok (.getfield 40, 3) := by decide +kernel
theorem dX9_goesBy_78 : decode cX9_goesBy 78 = .ok (.iload_n 2, 1) := by decide +kernel
theorem dX9_goesBy_79 : decode cX9_goesBy 79 = .ok (.iaload, 1) := by decide +kernel
theorem dX9_goesBy_80 : decode cX9_goesBy 80 = .ok (.invokevirtual 193, 3) := by decide +kernel
theorem dX9_goesBy_83 : decode cX9_goesBy 83 = .ok (.iinc 2 1, 3) := by decide +kernel
theorem dX9_goesBy_86 : decode cX9_goesBy 86 = .ok (.goto (-63), 3) := by decide +kernel
theorem dX9_goesBy_89 : decode cX9_goesBy 89 = .ok (.iconst 0, 1) := by decide +kernel
theorem dX9_goesBy_90 : decode cX9_goesBy 90 = .ok (.istore_n 2, 1) := by decide +kernel
theorem dX9_goesBy_91 : decode cX9_goesBy 91 = .ok (.iload_n 2, 1) := by decide +kernel
theorem dX9_goesBy_92 : decode cX9_goesBy 92 = .ok (.aload_n 0, 1) := by decide +kernel
theorem dX9_goesBy_93 : decode cX9_goesBy 93 = .ok (.getfield 173, 3) := by decide +kernel
theorem dX9_goesBy_96 : decode cX9_goesBy 96 = .ok (.if_icmp .ge 42, 3) := by decide +kernel
theorem dX9_goesBy_99 : decode cX9_goesBy 99 = .ok (.aload_n 0, 1) := by decide +kernel
theorem dX9_goesBy_100 : decode cX9_goesBy 100 = .ok (.getfield 43, 3) := by decide +kernel
theorem dX9_goesBy_103 : decode cX9_goesBy 103 = .ok (.iload_n 2, 1) := by decide +kernel
theorem dX9_goesBy_104 : decode cX9_goesBy 104 = .ok (.iaload, 1) := by decide +kernel
theorem dX9_goesBy_105 : decode cX9_goesBy 105 = .ok (.iload_n 1, 1) := by decide +kernel
theorem dX9_goesBy_106 : decode cX9_goesBy 106 = .ok (.if_icmp .ne 26, 3) := by decide +kernel
theorem dX9_goesBy_109 : decode cX9_goesBy 109 = .ok (.aload_n 0, 1) := by decide +kernel
theorem dX9_goesBy_110 : decode cX9_goesBy 110 = .ok (.getfield 46, 3) := by decide +kernel
theorem dX9_goesBy_113 : decode cX9_goesBy 113 = .ok (.iload_n 2, 1) := by decide +kernel
theorem dX9_goesBy_114 : decode cX9_goesBy 114 = .ok (.iaload, 1) := by decide +kernel
theorem dX9_goesBy_115 : decode cX9_goesBy 115 = .ok (.aload_n 0, 1) := by decide +kernel
theorem dX9_goesBy_116 : decode cX9_goesBy 116 = .ok (.getfield 109, 3) := by decide +kernel
theorem dX9_goesBy_119 : decode cX9_goesBy 119 = .ok (.if_icmp .ge 13, 3) := by decide +kernel
theorem dX9_goesBy_122 : decode cX9_goesBy 122 = .ok (.aload_n 0, 1) := by decide +kernel
theorem dX9_goesBy_123 : decode cX9_goesBy 123 = .ok (.aload_n 0, 1) := by decide +kernel
theorem dX9_goesBy_124 : decode cX9_goesBy 124 = .ok (.getfield 46, 3) := by decide +kernel
theorem dX9_goesBy_127 : decode cX9_goesBy 127 = .ok (.iload_n 2, 1) := by decide +kernel
theorem dX9_goesBy_128 : decode cX9_goesBy 128 = .ok (.iaload, 1) := by decide +kernel
theorem dX9_goesBy_129 : decode cX9_goesBy 129 = .ok (.invokevirtual 196, 3) := by decide +kernel
theorem dX9_goesBy_132 : decode cX9_goesBy 132 = .ok (.iinc 2 1, 3) := by decide +kernel
theorem dX9_goesBy_135 : decode cX9_goesBy 135 = .ok (.goto (-44), 3) := by decide +kernel
theorem dX9_goesBy_138 : decode cX9_goesBy 138 = .ok (.aload_n 0, 1) := by decide +kernel
theorem dX9_goesBy_139 : decode cX9_goesBy 139 = .ok (.getfield 176, 3) := by decide +kernel
theorem dX9_goesBy_142 : decode cX9_goesBy 142 = .ok (.iload_n 1, 1) := by decide +kernel
theorem dX9_goesBy_143 : decode cX9_goesBy 143 = .ok (.invokestatic 199, 3) := by decide +kernel
theorem dX9_goesBy_146 : decode cX9_goesBy 146 = .ok (.ifCond .eq 11, 3) := by decide +kernel
theorem dX9_goesBy_149 : decode cX9_goesBy 149 = .ok (.aload_n 0, 1) := by decide +kernel
theorem dX9_goesBy_150 : decode cX9_goesBy 150 = .ok (.aload_n 0, 1) := by decide +kernel
theorem dX9_goesBy_151 : decode cX9_goesBy 151 = .ok (.getfield 179, 3) := by decide +kernel
theorem dX9_goesBy_154 : decode cX9_goesBy 154 = .ok (.invokevirtual 196, 3) := by decide +kernel
theorem dX9_goesBy_157 : decode cX9_goesBy 157 = .ok (.return_, 1) := by decide +kernel
theorem dX9_begins_0 : decode cX9_begins 0 = .ok (.iconst 0, 1) := by decide +kernel
theorem dX9_begins_1 : decode cX9_begins 1 = .ok (.istore_n 1, 1) := by decide +kernel
theorem dX9_begins_2 : decode cX9_begins 2 = .ok (.iload_n 1, 1) := by decide +kernel
theorem dX9_begins_3 : decode cX9_begins 3 = .ok (.bipush 6, 2) := by decide +kernel
theorem dX9_begins_5 : decode cX9_begins 5 = .ok (.if_icmp .ge 16, 3) := by decide +kernel
theorem dX9_begins_8 : decode cX9_begins 8 = .ok (.aload_n 0, 1) := by decide +kernel
theorem dX9_begins_9 : decode cX9_begins 9 = .ok (.getfield 49, 3) := by decide +kernel
theorem dX9_begins_12 : decode cX9_begins 12 = .ok (.iload_n 1, 1) := by decide +kernel
theorem dX9_begins_13 : decode cX9_begins 13 = .ok (.iconst 0, 1) := by decide +kernel
theorem dX9_begins_14 : decode cX9_begins 14 = .ok (.iastore, 1) := by decide +kernel
theorem dX9_begins_15 : decode cX9_begins 15 = .ok (.iinc 1 1, 3) := by decide +kernel
theorem dX9_begins_18 : decode cX9_begins 18 = .ok (.goto (-16), 3) := by decide +kernel
theorem dX9_begins_21 : decode cX9_begins 21 = .ok (.return_, 1) := by decide +kernel
theorem dX9_runs_0 : decode cX9_runs 0 = .ok (.aload_n 0, 1) := by decide +kernel
theorem dX9_runs_1 : decode cX9_runs 1 = .ok (.invokevirtual 203, 3) := by decide +kernel
theorem dX9_runs_4 : decode cX9_runs 4 = .ok (.iconst 0, 1) := by decide +kernel
theorem dX9_runs_5 : decode cX9_runs 5 = .ok (.istore_n 2, 1) := by decide +kernel
theorem dX9_runs_6 : decode cX9_runs 6 = .ok (.iload_n 2, 1) := by decide +kernel
theorem dX9_runs_7 : decode cX9_runs 7 = .ok (.iload_n 1, 1) := by decide +kernel
theorem dX9_runs_8 : decode cX9_runs 8 = .ok (.if_icmp .gt 14, 3) := by decide +kernel
theorem dX9_runs_11 : decode cX9_runs 11 = .ok (.aload_n 0, 1) := by decide +kernel
theorem dX9_runs_12 : decode cX9_runs 12 = .ok (.iload_n 2, 1) := by decide +kernel
theorem dX9_runs_13 : decode cX9_runs 13 = .ok (.invokevirtual 206, 3) := by decide +kernel
theorem dX9_runs_16 : decode cX9_runs 16 = .ok (.iinc 2 1, 3) := by decide +kernel
theorem dX9_runs_19 : decode cX9_runs 19 = .ok (.goto (-13), 3) := by decide +kernel
theorem dX9_runs_22 : decode cX9_runs 22 = .ok (.return_, 1) := by decide +kernel
theorem dX9_runsTold_0 : decode cX9_runsTold 0 = .ok (.aload_n 0, 1) := by decide +kernel
theorem dX9_runsTold_1 : decode cX9_runsTold 1 = .ok (.invokevirtual 127, 3) := by decide +kernel
theorem dX9_runsTold_4 : decode cX9_runsTold 4 = .ok (.aload_n 0, 1) := by decide +kernel
theorem dX9_runsTold_5 : decode cX9_runsTold 5 = .ok (.invokevirtual 209, 3) := by decide +kernel
theorem dX9_runsTold_8 : decode cX9_runsTold 8 = .ok (.aload_n 0, 1) := by decide +kernel
theorem dX9_runsTold_9 : decode cX9_runsTold 9 = .ok (.iload_n 1, 1) := by decide +kernel
theorem dX9_runsTold_10 : decode cX9_runsTold 10 = .ok (.invokevirtual 212, 3) := by decide +kernel
theorem dX9_runsTold_13 : decode cX9_runsTold 13 = .ok (.return_, 1) := by decide +kernel
theorem dX9_tellsNow_0 : decode cX9_tellsNow 0 = .ok (.iconst 0, 1) := by decide +kernel
theorem dX9_tellsNow_1 : decode cX9_tellsNow 1 = .ok (.istore_n 2, 1) := by decide +kernel
theorem dX9_tellsNow_2 : decode cX9_tellsNow 2 = .ok (.iconst 0, 1) := by decide +kernel
theorem dX9_tellsNow_3 : decode cX9_tellsNow 3 = .ok (.istore_n 3, 1) := by decide +kernel
theorem dX9_tellsNow_4 : decode cX9_tellsNow 4 = .ok (.iload_n 3, 1) := by decide +kernel
theorem dX9_tellsNow_5 : decode cX9_tellsNow 5 = .ok (.aload_n 0, 1) := by decide +kernel
theorem dX9_tellsNow_6 : decode cX9_tellsNow 6 = .ok (.getfield 49, 3) := by decide +kernel
theorem dX9_tellsNow_9 : decode cX9_tellsNow 9 = .ok (.iload_n 1, 1) := by decide +kernel
theorem dX9_tellsNow_10 : decode cX9_tellsNow 10 = .ok (.iaload, 1) := by decide +kernel
theorem dX9_tellsNow_11 : decode cX9_tellsNow 11 = .ok (.if_icmp .ge 35, 3) := by decide +kernel
theorem dX9_tellsNow_14 : decode cX9_tellsNow 14 = .ok (.iload_n 3, 1) := by decide +kernel
theorem dX9_tellsNow_15 : decode cX9_tellsNow 15 = .ok (.aload_n 0, 1) := by decide +kernel
theorem dX9_tellsNow_16 : decode cX9_tellsNow 16 = .ok (.getfield 19, 3) := by decide +kernel
theorem dX9_tellsNow_19 : decode cX9_tellsNow 19 = .ok (.iload_n 1, 1) := by decide +kernel
theorem dX9_tellsNow_20 : decode cX9_tellsNow 20 = .ok (.iaload, 1) := by decide +kernel
theorem dX9_tellsNow_21 : decode cX9_tellsNow 21 = .ok (.if_icmp .ge 25, 3) := by decide +kernel
theorem dX9_tellsNow_24 : decode cX9_tellsNow 24 = .ok (.iload_n 2, 1) := by decide +kernel
theorem dX9_tellsNow_25 : decode cX9_tellsNow 25 = .ok (.iconst 1, 1) := by decide +kernel
theorem dX9_tellsNow_26 : decode cX9_tellsNow 26 = .ok (.aload_n 0, 1) := by decide +kernel
theorem dX9_tellsNow_27 : decode cX9_tellsNow 27 = .ok (.getfield 52, 3) := by decide +kernel
theorem dX9_tellsNow_30 : decode cX9_tellsNow 30 = .ok (.bipush 6, 2) := by decide +kernel
theorem dX9_tellsNow_32 : decode cX9_tellsNow 32 = .ok (.iload_n 1, 1) := by decide +kernel
theorem dX9_tellsNow_33 : decode cX9_tellsNow 33 = .ok (.imul, 1) := by decide +kernel
theorem dX9_tellsNow_34 : decode cX9_tellsNow 34 = .ok (.iload_n 3, 1) := by decide +kernel
theorem dX9_tellsNow_35 : decode cX9_tellsNow 35 = .ok (.iadd, 1) := by decide +kernel
theorem dX9_tellsNow_36 : decode cX9_tellsNow 36 = .ok (.iaload, 1) := by decide +kernel
theorem dX9_tellsNow_37 : decode cX9_tellsNow 37 = .ok (.ishl, 1) := by decide +kernel
theorem dX9_tellsNow_38 : decode cX9_tellsNow 38 = .ok (.ior, 1) := by decide +kernel
theorem dX9_tellsNow_39 : decode cX9_tellsNow 39 = .ok (.istore_n 2, 1) := by decide +kernel
theorem dX9_tellsNow_40 : decode cX9_tellsNow 40 = .ok (.iinc 3 1, 3) := by decide +kernel
theorem dX9_tellsNow_43 : decode cX9_tellsNow 43 = .ok (.goto (-39), 3) := by decide +kernel
theorem dX9_tellsNow_46 : decode cX9_tellsNow 46 = .ok (.iload_n 2, 1) := by decide +kernel
theorem dX9_tellsNow_47 : decode cX9_tellsNow 47 = .ok (.ireturn, 1) := by decide +kernel
theorem dX9_tellsAll_0 : decode cX9_tellsAll 0 = .ok (.iconst 0, 1) := by decide +kernel
theorem dX9_tellsAll_1 : decode cX9_tellsAll 1 = .ok (.istore_n 1, 1) := by decide +kernel
theorem dX9_tellsAll_2 : decode cX9_tellsAll 2 = .ok (.iconst 0, 1) := by decide +kernel
theorem dX9_tellsAll_3 : decode cX9_tellsAll 3 = .ok (.istore_n 2, 1) := by decide +kernel
theorem dX9_tellsAll_4 : decode cX9_tellsAll 4 = .ok (.iload_n 2, 1) := by decide +kernel
theorem dX9_tellsAll_5 : decode cX9_tellsAll 5 = .ok (.aload_n 0, 1) := by decide +kernel
theorem dX9_tellsAll_6 : decode cX9_tellsAll 6 = .ok (.getfield 109, 3) := by decide +kernel
theorem dX9_tellsAll_9 : decode cX9_tellsAll 9 = .ok (.if_icmp .ge 17, 3) := by decide +kernel
theorem dX9_tellsAll_12 : decode cX9_tellsAll 12 = .ok (.iload_n 1, 1) := by decide +kernel
theorem dX9_tellsAll_13 : decode cX9_tellsAll 13 = .ok (.aload_n 0, 1) := by decide +kernel
theorem dX9_tellsAll_14 : decode cX9_tellsAll 14 = .ok (.iload_n 2, 1) := by decide +kernel
theorem dX9_tellsAll_15 : decode cX9_tellsAll 15 = .ok (.invokevirtual 215, 3) := by decide +kernel
theorem dX9_tellsAll_18 : decode cX9_tellsAll 18 = .ok (.ior, 1) := by decide +kernel
theorem dX9_tellsAll_19 : decode cX9_tellsAll 19 = .ok (.istore_n 1, 1) := by decide +kernel
theorem dX9_tellsAll_20 : decode cX9_tellsAll 20 = .ok (.iinc 2 1, 3) := by decide +kernel
theorem dX9_tellsAll_23 : decode cX9_tellsAll 23 = .ok (.goto (-19), 3) := by decide +kernel
theorem dX9_tellsAll_26 : decode cX9_tellsAll 26 = .ok (.iload_n 1, 1) := by decide +kernel
theorem dX9_tellsAll_27 : decode cX9_tellsAll 27 = .ok (.ireturn, 1) := by decide +kernel
theorem dX9_layersOf_0 : decode cX9_layersOf 0 = .ok (.aload_n 0, 1) := by decide +kernel
theorem dX9_layersOf_1 : decode cX9_layersOf 1 = .ok (.iload_n 1, 1) := by decide +kernel
theorem dX9_layersOf_2 : decode cX9_layersOf 2 = .ok (.invokevirtual 218, 3) := by decide +kernel
theorem dX9_layersOf_5 : decode cX9_layersOf 5 = .ok (.iload_n 3, 1) := by decide +kernel
theorem dX9_layersOf_6 : decode cX9_layersOf 6 = .ok (.iconst (-1), 1) := by decide +kernel
theorem dX9_layersOf_7 : decode cX9_layersOf 7 = .ok (.if_icmp .ne 12, 3) := by decide +kernel
theorem dX9_layersOf_10 : decode cX9_layersOf 10 = .ok (.aload_n 0, 1) := by decide +kernel
theorem dX9_layersOf_11 : decode cX9_layersOf 11 = .ok (.getfield 49, 3) := by decide +kernel
theorem dX9_layersOf_14 : decode cX9_layersOf 14 = .ok (.iload_n 2, 1) := by decide +kernel
theorem dX9_layersOf_15 : decode cX9_layersOf 15 = .ok (.iaload, 1) := by decide +kernel
theorem dX9_layersOf_16 : decode cX9_layersOf 16 = .ok (.goto 28, 3) := by decide +kernel
theorem dX9_layersOf_19 : decode cX9_layersOf 19 = .ok (.iload_n 3, 1) := by decide +kernel
theorem dX9_layersOf_20 : decode cX9_layersOf 20 = .ok (.aload_n 0, 1) := by decide +kernel
theorem dX9_layersOf_21 : decode cX9_layersOf 21 = .ok (.getfield 49, 3) := by decide +kernel
theorem dX9_layersOf_24 : decode cX9_layersOf 24 = .ok (.iload_n 2, 1) := by decide +kernel
theorem dX9_layersOf_25 : decode cX9_layersOf 25 = .ok (.iaload, 1) := by decide +kernel
theorem dX9_layersOf_26 : decode cX9_layersOf 26 = .ok (.if_icmp .ge 17, 3) := by decide +kernel
theorem dX9_layersOf_29 : decode cX9_layersOf 29 = .ok (.aload_n 0, 1) := by decide +kernel
theorem dX9_layersOf_30 : decode cX9_layersOf 30 = .ok (.getfield 52, 3) := by decide +kernel
theorem dX9_layersOf_33 : decode cX9_layersOf 33 = .ok (.bipush 6, 2) := by decide +kernel
theorem dX9_layersOf_35 : decode cX9_layersOf 35 = .ok (.iload_n 2, 1) := by decide +kernel
theorem dX9_layersOf_36 : decode cX9_layersOf 36 = .ok (.imul, 1) := by decide +kernel
theorem dX9_layersOf_37 : decode cX9_layersOf 37 = .ok (.iload_n 3, 1) := by decide +kernel
theorem dX9_layersOf_38 : decode cX9_layersOf 38 = .ok (.iadd, 1) := by decide +kernel
theorem dX9_layersOf_39 : decode cX9_layersOf 39 = .ok (.iaload, 1) := by decide +kernel
theorem dX9_layersOf_40 : decode cX9_layersOf 40 = .ok (.goto 4, 3) := by decide +kernel
theorem dX9_layersOf_43 : decode cX9_layersOf 43 = .ok (.iconst (-1), 1) := by decide +kernel
theorem dX9_layersOf_44 : decode cX9_layersOf 44 = .ok (.ireturn, 1) := by decide +kernel
theorem dX9_layers_0 : decode cX9_layers 0 = .ok (.iload_n 1, 1) := by decide +kernel
theorem dX9_layers_1 : decode cX9_layers 1 = .ok (.invokestatic 142, 3) := by decide +kernel
theorem dX9_layers_4 : decode cX9_layers 4 = .ok (.ifCond .eq 30, 3) := by decide +kernel
theorem dX9_layers_7 : decode cX9_layers 7 = .ok (.aload_n 0, 1) := by decide +kernel
theorem dX9_layers_8 : decode cX9_layers 8 = .ok (.iload_n 2, 1) := by decide +kernel
theorem dX9_layers_9 : decode cX9_layers 9 = .ok (.invokevirtual 130, 3) := by decide +kernel
theorem dX9_layers_12 : decode cX9_layers 12 = .ok (.ifCond .eq 22, 3) := by decide +kernel
theorem dX9_layers_15 : decode cX9_layers 15 = .ok (.iload_n 3, 1) := by decide +kernel
theorem dX9_layers_16 : decode cX9_layers 16 = .ok (.iconst (-1), 1) := by decide +kernel
theorem dX9_layers_17 : decode cX9_layers 17 = .ok (.iconst 4, 1) := by decide +kernel
theorem dX9_layers_18 : decode cX9_layers 18 = .ok (.invokestatic 97, 3) := by decide +kernel
theorem dX9_layers_21 : decode cX9_layers 21 = .ok (.ifCond .eq 13, 3) := by decide +kernel
theorem dX9_layers_24 : decode cX9_layers 24 = .ok (.aload_n 0, 1) := by decide +kernel
theorem dX9_layers_25 : decode cX9_layers 25 = .ok (.iload_n 1, 1) := by decide +kernel
theorem dX9_layers_26 : decode cX9_layers 26 = .ok (.iload_n 2, 1) := by decide +kernel
theorem dX9_layers_27 : decode cX9_layers 27 = .ok (.iload_n 3, 1) := by decide +kernel
theorem dX9_layers_28 : decode cX9_layers 28 = .ok (.invokevirtual 221, 3) := by decide +kernel
theorem dX9_layers_31 : decode cX9_layers 31 = .ok (.goto 5, 3) := by decide +kernel
theorem dX9_layers_34 : decode cX9_layers 34 = .ok (.bipush (-2), 2) := by decide +kernel
theorem dX9_layers_36 : decode cX9_layers 36 = .ok (.ireturn, 1) := by decide +kernel
theorem dX9_strongOf_0 : decode cX9_strongOf 0 = .ok (.aload_n 0, 1) := by decide +kernel
theorem dX9_strongOf_1 : decode cX9_strongOf 1 = .ok (.iload_n 1, 1) := by decide +kernel
theorem dX9_strongOf_2 : decode cX9_strongOf 2 = .ok (.invokevirtual 218, 3) := by decide +kernel
theorem dX9_strongOf_5 : decode cX9_strongOf 5 = .ok (.iload_n 3, 1) := by decide +kernel
theorem dX9_strongOf_6 : decode cX9_strongOf 6 = .ok (.aload_n 0, 1) := by decide +kernel
theorem dX9_strongOf_7 : decode cX9_strongOf 7 = .ok (.getfield 49, 3) := by decide +kernel
theorem dX9_strongOf_10 : decode cX9_strongOf 10 = .ok (.iload_n 2, 1) := by decide +kernel
theorem dX9_strongOf_11 : decode cX9_strongOf 11 = .ok (.iaload, 1) := by decide +kernel
theorem dX9_strongOf_12 : decode cX9_strongOf 12 = .ok (.if_icmp .ge 17, 3) := by decide +kernel
theorem dX9_strongOf_15 : decode cX9_strongOf 15 = .ok (.aload_n 0, 1) := by decide +kernel
theorem dX9_strongOf_16 : decode cX9_strongOf 16 = .ok (.getfield 55, 3) := by decide +kernel
theorem dX9_strongOf_19 : decode cX9_strongOf 19 = .ok (.bipush 6, 2) := by decide +kernel
theorem dX9_strongOf_21 : decode cX9_strongOf 21 = .ok (.iload_n 2, 1) := by decide +kernel
theorem dX9_strongOf_22 : decode cX9_strongOf 22 = .ok (.imul, 1) := by decide +kernel
theorem dX9_strongOf_23 : decode cX9_strongOf 23 = .ok (.iload_n 3, 1) := by decide +kernel
theorem dX9_strongOf_24 : decode cX9_strongOf 24 = .ok (.iadd, 1) := by decide +kernel
theorem dX9_strongOf_25 : decode cX9_strongOf 25 = .ok (.iaload, 1) := by decide +kernel
theorem dX9_strongOf_26 : decode cX9_strongOf 26 = .ok (.goto 4, 3) := by decide +kernel
theorem dX9_strongOf_29 : decode cX9_strongOf 29 = .ok (.iconst (-1), 1) := by decide +kernel
theorem dX9_strongOf_30 : decode cX9_strongOf 30 = .ok (.ireturn, 1) := by decide +kernel
theorem dX9_strong_0 : decode cX9_strong 0 = .ok (.iload_n 1, 1) := by decide +kernel
theorem dX9_strong_1 : decode cX9_strong 1 = .ok (.invokestatic 142, 3) := by decide +kernel
theorem dX9_strong_4 : decode cX9_strong 4 = .ok (.ifCond .eq 30, 3) := by decide +kernel
theorem dX9_strong_7 : decode cX9_strong 7 = .ok (.aload_n 0, 1) := by decide +kernel
theorem dX9_strong_8 : decode cX9_strong 8 = .ok (.iload_n 2, 1) := by decide +kernel
theorem dX9_strong_9 : decode cX9_strong 9 = .ok (.invokevirtual 130, 3) := by decide +kernel
theorem dX9_strong_12 : decode cX9_strong 12 = .ok (.ifCond .eq 22, 3) := by decide +kernel
theorem dX9_strong_15 : decode cX9_strong 15 = .ok (.iload_n 3, 1) := by decide +kernel
theorem dX9_strong_16 : decode cX9_strong 16 = .ok (.iconst 0, 1) := by decide +kernel
theorem dX9_strong_17 : decode cX9_strong 17 = .ok (.iconst 4, 1) := by decide +kernel
theorem dX9_strong_18 : decode cX9_strong 18 = .ok (.invokestatic 97, 3) := by decide +kernel
theorem dX9_strong_21 : decode cX9_strong 21 = .ok (.ifCond .eq 13, 3) := by decide +kernel
theorem dX9_strong_24 : decode cX9_strong 24 = .ok (.aload_n 0, 1) := by decide +kernel
theorem dX9_strong_25 : decode cX9_strong 25 = .ok (.iload_n 1, 1) := by decide +kernel
theorem dX9_strong_26 : decode cX9_strong 26 = .ok (.iload_n 2, 1) := by decide +kernel
theorem dX9_strong_27 : decode cX9_strong 27 = .ok (.iload_n 3, 1) := by decide +kernel
theorem dX9_strong_28 : decode cX9_strong 28 = .ok (.invokevirtual 224, 3) := by decide +kernel
theorem dX9_strong_31 : decode cX9_strong 31 = .ok (.goto 5, 3) := by decide +kernel
theorem dX9_strong_34 : decode cX9_strong 34 = .ok (.bipush (-2), 2) := by decide +kernel
theorem dX9_strong_36 : decode cX9_strong 36 = .ok (.ireturn, 1) := by decide +kernel
theorem dX9_tellsOf_0 : decode cX9_tellsOf 0 = .ok (.aload_n 0, 1) := by decide +kernel
theorem dX9_tellsOf_1 : decode cX9_tellsOf 1 = .ok (.iload_n 1, 1) := by decide +kernel
theorem dX9_tellsOf_2 : decode cX9_tellsOf 2 = .ok (.invokevirtual 218, 3) := by decide +kernel
theorem dX9_tellsOf_5 : decode cX9_tellsOf 5 = .ok (.iload_n 2, 1) := by decide +kernel
theorem dX9_tellsOf_6 : decode cX9_tellsOf 6 = .ok (.iconst (-1), 1) := by decide +kernel
theorem dX9_tellsOf_7 : decode cX9_tellsOf 7 = .ok (.if_icmp .ne 10, 3) := by decide +kernel
theorem dX9_tellsOf_10 : decode cX9_tellsOf 10 = .ok (.aload_n 0, 1) := by decide +kernel
theorem dX9_tellsOf_11 : decode cX9_tellsOf 11 = .ok (.invokevirtual 227, 3) := by decide +kernel
theorem dX9_tellsOf_14 : decode cX9_tellsOf 14 = .ok (.goto 8, 3) := by decide +kernel
theorem dX9_tellsOf_17 : decode cX9_tellsOf 17 = .ok (.aload_n 0, 1) := by decide +kernel
theorem dX9_tellsOf_18 : decode cX9_tellsOf 18 = .ok (.iload_n 2, 1) := by decide +kernel
theorem dX9_tellsOf_19 : decode cX9_tellsOf 19 = .ok (.invokevirtual 215, 3) := by decide +kernel
theorem dX9_tellsOf_22 : decode cX9_tellsOf 22 = .ok (.ireturn, 1) := by decide +kernel
theorem dX9_tells_0 : decode cX9_tells 0 = .ok (.iload_n 1, 1) := by decide +kernel
theorem dX9_tells_1 : decode cX9_tells 1 = .ok (.invokestatic 142, 3) := by decide +kernel
theorem dX9_tells_4 : decode cX9_tells 4 = .ok (.ifCond .eq 25, 3) := by decide +kernel
theorem dX9_tells_7 : decode cX9_tells 7 = .ok (.iload_n 2, 1) := by decide +kernel
theorem dX9_tells_8 : decode cX9_tells 8 = .ok (.iconst (-1), 1) := by decide +kernel
theorem dX9_tells_9 : decode cX9_tells 9 = .ok (.if_icmp .eq 11, 3) := by decide +kernel
theorem dX9_tells_12 : decode cX9_tells 12 = .ok (.aload_n 0, 1) := by decide +kernel
theorem dX9_tells_13 : decode cX9_tells 13 = .ok (.iload_n 2, 1) := by decide +kernel
theorem dX9_tells_14 : decode cX9_tells 14 = .ok (.invokevirtual 130, 3) := by decide +kernel
theorem dX9_tells_17 : decode cX9_tells 17 = .ok (.ifCond .eq 12, 3) := by decide +kernel
theorem dX9_tells_20 : decode cX9_tells 20 = .ok (.aload_n 0, 1) := by decide +kernel
theorem dX9_tells_21 : decode cX9_tells 21 = .ok (.iload_n 1, 1) := by decide +kernel
theorem dX9_tells_22 : decode cX9_tells 22 = .ok (.iload_n 2, 1) := by decide +kernel
theorem dX9_tells_23 : decode cX9_tells 23 = .ok (.invokevirtual 231, 3) := by decide +kernel
theorem dX9_tells_26 : decode cX9_tells 26 = .ok (.goto 5, 3) := by decide +kernel
theorem dX9_tells_29 : decode cX9_tells 29 = .ok (.bipush (-2), 2) := by decide +kernel
theorem dX9_tells_31 : decode cX9_tells 31 = .ok (.ireturn, 1) := by decide +kernel
theorem dX9_nowhereOf_0 : decode cX9_nowhereOf 0 = .ok (.aload_n 0, 1) := by decide +kernel
theorem dX9_nowhereOf_1 : decode cX9_nowhereOf 1 = .ok (.iload_n 1, 1) := by decide +kernel
theorem dX9_nowhereOf_2 : decode cX9_nowhereOf 2 = .ok (.invokevirtual 218, 3) := by decide +kernel
theorem dX9_nowhereOf_5 : decode cX9_nowhereOf 5 = .ok (.aload_n 0, 1) := by decide +kernel
theorem dX9_nowhereOf_6 : decode cX9_nowhereOf 6 = .ok (.invokevirtual 227, 3) := by decide +kernel
theorem dX9_nowhereOf_9 : decode cX9_nowhereOf 9 = .ok (.istore_n 2, 1) := by decide +kernel
theorem dX9_nowhereOf_10 : decode cX9_nowhereOf 10 = .ok (.iconst 0, 1) := by decide +kernel
theorem dX9_nowhereOf_11 : decode cX9_nowhereOf 11 = .ok (.istore_n 3, 1) := by decide +kernel
theorem dX9_nowhereOf_12 : decode cX9_nowhereOf 12 = .ok (.iconst 0, 1) := by decide +kernel
theorem dX9_nowhereOf_13 : decode cX9_nowhereOf 13 = .ok (.istore 4, 2) := by decide +kernel
theorem dX9_nowhereOf_15 : decode cX9_nowhereOf 15 = .ok (.iload 4, 2) := by decide +kernel
theorem dX9_nowhereOf_17 : decode cX9_nowhereOf 17 = .ok (.aload_n 0, 1) := by decide +kernel
theorem dX9_nowhereOf_18 : decode cX9_nowhereOf 18 = .ok (.getfield 151, 3) := by decide +kernel
theorem dX9_nowhereOf_21 : decode cX9_nowhereOf 21 = .ok (.if_icmp .ge 88, 3) := by decide +kernel
theorem dX9_nowhereOf_24 : decode cX9_nowhereOf 24 = .ok (.aload_n 0, 1) := by decide +kernel
theorem dX9_nowhereOf_25 : decode cX9_nowhereOf 25 = .ok (.getfield 37, 3) := by decide +kernel
theorem dX9_nowhereOf_28 : decode cX9_nowhereOf 28 = .ok (.iload 4, 2) := by decide +kernel
theorem dX9_nowhereOf_30 : decode cX9_nowhereOf 30 = .ok (.iaload, 1) := by decide +kernel
theorem dX9_nowhereOf_31 : decode cX9_nowhereOf 31 = .ok (.istore 5, 2) := by decide +kernel
theorem dX9_nowhereOf_33 : decode cX9_nowhereOf 33 = .ok (.aload_n 0, 1) := by decide +kernel
theorem dX9_nowhereOf_34 : decode cX9_nowhereOf 34 = .ok (.getfield 34, 3) := by decide +kernel
theorem dX9_nowhereOf_37 : decode cX9_nowhereOf 37 = .ok (.iload 4, 2) := by decide +kernel
theorem dX9_nowhereOf_39 : decode cX9_nowhereOf 39 = .ok (.iaload, 1) := by decide +kernel
theorem dX9_nowhereOf_40 : decode cX9_nowhereOf 40 = .ok (.iload_n 1, 1) := by decide +kernel
theorem dX9_nowhereOf_41 : decode cX9_nowhereOf 41 = .ok (.if_icmp .gt 43, 3) := by decide +kernel
theorem dX9_nowhereOf_44 : decode cX9_nowhereOf 44 = .ok (.iload 5, 2) := by decide +kernel
theorem dX9_nowhereOf_46 : decode cX9_nowhereOf 46 = .ok (.aload_n 0, 1) := by decide +kernel
theorem dX9_nowhereOf_47 : decode cX9_nowhereOf 47 = .ok (.getfield 113, 3) := by decide +kernel
theorem dX9_nowhereOf_50 : decode cX9_nowhereOf 50 = .ok (.if_icmp .ge 34, 3) := by decide +kernel
theorem dX9_nowhereOf_53 : decode cX9_nowhereOf 53 = .ok (.aload_n 0, 1) := by decide +kernel
theorem dX9_nowhereOf_54 : decode cX9_nowhereOf 54 = .ok (.getfield 40, 3) := by decide +kernel
theorem dX9_nowhereOf_57 : decode cX9_nowhereOf 57 = .ok (.iload 4, 2) := by decide +kernel
theorem dX9_nowhereOf_59 : decode cX9_nowhereOf 59 = .ok (.iaload, 1) := by decide +kernel
theorem dX9_nowhereOf_60 : decode cX9_nowhereOf 60 = .ok (.aload_n 0, 1) := by decide +kernel
theorem dX9_nowhereOf_61 : decode cX9_nowhereOf 61 = .ok (.getfield 109, 3) := by decide +kernel
theorem dX9_nowhereOf_64 : decode cX9_nowhereOf 64 = .ok (.if_icmp .ge 20, 3) := by decide +kernel
theorem dX9_nowhereOf_67 : decode cX9_nowhereOf 67 = .ok (.iload_n 2, 1) := by decide +kernel
theorem dX9_nowhereOf_68 : decode cX9_nowhereOf 68 = .ok (.aload_n 0, 1) := by decide +kernel
theorem dX9_nowhereOf_69 : decode cX9_nowhereOf 69 = .ok (.iload 5, 2) := by decide +kernel
theorem dX9_nowhereOf_71 : decode cX9_nowhereOf 71 = .ok (.invokevirtual 133, 3) := by decide +kernel
theorem dX9_nowhereOf_74 : decode cX9_nowhereOf 74 = .ok (.invokestatic 199, 3) := by decide +kernel
theorem dX9_nowhereOf_77 : decode cX9_nowhereOf 77 = .ok (.ifCond .ne 7, 3) := by decide +kernel
theorem dX9_nowhereOf_80 : decode cX9_nowhereOf 80 = .ok (.iconst 1, 1) := by decide +kernel
theorem dX9_nowhereOf_81 : decode cX9_nowhereOf 81 = .ok (.goto 4, 3) := by decide +kernel
theorem dX9_nowhereOf_84 : decode cX9_nowhereOf 84 = .ok (.iconst 0, 1) := by decide +kernel
theorem dX9_nowhereOf_85 : decode cX9_nowhereOf 85 = .ok (.istore 6, 2) := by decide +kernel
theorem dX9_nowhereOf_87 : decode cX9_nowhereOf 87 = .ok (.iload_n 3, 1) := by decide +kernel
theorem dX9_nowhereOf_88 : decode cX9_nowhereOf 88 = .ok (.iload 6, 2) := by decide +kernel
theorem dX9_nowhereOf_90 : decode cX9_nowhereOf 90 = .ok (.ifCond .eq 10, 3) := by decide +kernel
theorem dX9_nowhereOf_93 : decode cX9_nowhereOf 93 = .ok (.iconst 1, 1) := by decide +kernel
theorem dX9_nowhereOf_94 : decode cX9_nowhereOf 94 = .ok (.iload 5, 2) := by decide +kernel
theorem dX9_nowhereOf_96 : decode cX9_nowhereOf 96 = .ok (.ishl, 1) := by decide +kernel
theorem dX9_nowhereOf_97 : decode cX9_nowhereOf 97 = .ok (.goto 4, 3) := by decide +kernel
theorem dX9_nowhereOf_100 : decode cX9_nowhereOf 100 = .ok (.iconst 0, 1) := by decide +kernel
theorem dX9_nowhereOf_101 : decode cX9_nowhereOf 101 = .ok (.ior, 1) := by decide +kernel
theorem dX9_nowhereOf_102 : decode cX9_nowhereOf 102 = .ok (.istore_n 3, 1) := by decide +kernel
theorem dX9_nowhereOf_103 : decode cX9_nowhereOf 103 = .ok (.iinc 4 1, 3) := by decide +kernel
theorem dX9_nowhereOf_106 : decode cX9_nowhereOf 106 = .ok (.goto (-91), 3) := by decide +kernel
theorem dX9_nowhereOf_109 : decode cX9_nowhereOf 109 = .ok (.iload_n 3, 1) := by decide +kernel
theorem dX9_nowhereOf_110 : decode cX9_nowhereOf 110 = .ok (.ireturn, 1) := by decide +kernel
theorem dX9_nowhere_0 : decode cX9_nowhere 0 = .ok (.iload_n 1, 1) := by decide +kernel
theorem dX9_nowhere_1 : decode cX9_nowhere 1 = .ok (.invokestatic 142, 3) := by decide +kernel
theorem dX9_nowhere_4 : decode cX9_nowhere 4 = .ok (.ifCond .eq 11, 3) := by decide +kernel
theorem dX9_nowhere_7 : decode cX9_nowhere 7 = .ok (.aload_n 0, 1) := by decide +kernel
theorem dX9_nowhere_8 : decode cX9_nowhere 8 = .ok (.iload_n 1, 1) := by decide +kernel
theorem dX9_nowhere_9 : decode cX9_nowhere 9 = .ok (.invokevirtual 234, 3) := by decide +kernel
theorem dX9_nowhere_12 : decode cX9_nowhere 12 = .ok (.goto 5, 3) := by decide +kernel
theorem dX9_nowhere_15 : decode cX9_nowhere 15 = .ok (.bipush (-2), 2) := by decide +kernel
theorem dX9_nowhere_17 : decode cX9_nowhere 17 = .ok (.ireturn, 1) := by decide +kernel
theorem dX9_lastOf_0 : decode cX9_lastOf 0 = .ok (.aload_n 0, 1) := by decide +kernel
theorem dX9_lastOf_1 : decode cX9_lastOf 1 = .ok (.invokevirtual 127, 3) := by decide +kernel
theorem dX9_lastOf_4 : decode cX9_lastOf 4 = .ok (.aload_n 0, 1) := by decide +kernel
theorem dX9_lastOf_5 : decode cX9_lastOf 5 = .ok (.invokevirtual 209, 3) := by decide +kernel
theorem dX9_lastOf_8 : decode cX9_lastOf 8 = .ok (.aload_n 0, 1) := by decide +kernel
theorem dX9_lastOf_9 : decode cX9_lastOf 9 = .ok (.invokevirtual 203, 3) := by decide +kernel
theorem dX9_lastOf_12 : decode cX9_lastOf 12 = .ok (.iconst (-1), 1) := by decide +kernel
theorem dX9_lastOf_13 : decode cX9_lastOf 13 = .ok (.istore_n 3, 1) := by decide +kernel
theorem dX9_lastOf_14 : decode cX9_lastOf 14 = .ok (.iconst 0, 1) := by decide +kernel
theorem dX9_lastOf_15 : decode cX9_lastOf 15 = .ok (.istore 4, 2) := by decide +kernel
theorem dX9_lastOf_17 : decode cX9_lastOf 17 = .ok (.iload 4, 2) := by decide +kernel
theorem dX9_lastOf_19 : decode cX9_lastOf 19 = .ok (.bipush 24, 2) := by decide +kernel
theorem dX9_lastOf_21 : decode cX9_lastOf 21 = .ok (.if_icmp .ge 34, 3) := by decide +kernel
theorem dX9_lastOf_24 : decode cX9_lastOf 24 = .ok (.aload_n 0, 1) := by decide +kernel
theorem dX9_lastOf_25 : decode cX9_lastOf 25 = .ok (.iload 4, 2) := by decide +kernel
theorem dX9_lastOf_27 : decode cX9_lastOf 27 = .ok (.invokevirtual 206, 3) := by decide +kernel
theorem dX9_lastOf_30 : decode cX9_lastOf 30 = .ok (.aload_n 0, 1) := by decide +kernel
theorem dX9_lastOf_31 : decode cX9_lastOf 31 = .ok (.iload_n 1, 1) := by decide +kernel
theorem dX9_lastOf_32 : decode cX9_lastOf 32 = .ok (.invokevirtual 215, 3) := by decide +kernel
theorem dX9_lastOf_35 : decode cX9_lastOf 35 = .ok (.iload_n 2, 1) := by decide +kernel
theorem dX9_lastOf_36 : decode cX9_lastOf 36 = .ok (.invokestatic 199, 3) := by decide +kernel
theorem dX9_lastOf_39 : decode cX9_lastOf 39 = .ok (.ifCond .eq 8, 3) := by decide +kernel
theorem dX9_lastOf_42 : decode cX9_lastOf 42 = .ok (.iload 4, 2) := by decide +kernel
theorem dX9_lastOf_44 : decode cX9_lastOf 44 = .ok (.goto 4, 3) := by decide +kernel
theorem dX9_lastOf_47 : decode cX9_lastOf 47 = .ok (.iload_n 3, 1) := by decide +kernel
theorem dX9_lastOf_48 : decode cX9_lastOf 48 = .ok (.istore_n 3, 1) := by decide +kernel
theorem dX9_lastOf_49 : decode cX9_lastOf 49 = .ok (.iinc 4 1, 3) := by decide +kernel
theorem dX9_lastOf_52 : decode cX9_lastOf 52 = .ok (.goto (-35), 3) := by decide +kernel
theorem dX9_lastOf_55 : decode cX9_lastOf 55 = .ok (.iload_n 3, 1) := by decide +kernel
theorem dX9_lastOf_56 : decode cX9_lastOf 56 = .ok (.ireturn, 1) := by decide +kernel
theorem dX9_last_0 : decode cX9_last 0 = .ok (.aload_n 0, 1) := by decide +kernel
theorem dX9_last_1 : decode cX9_last 1 = .ok (.iload_n 1, 1) := by decide +kernel
theorem dX9_last_2 : decode cX9_last 2 = .ok (.invokevirtual 130, 3) := by decide +kernel
theorem dX9_last_5 : decode cX9_last 5 = .ok (.ifCond .eq 20, 3) := by decide +kernel
theorem dX9_last_8 : decode cX9_last 8 = .ok (.aload_n 0, 1) := by decide +kernel
theorem dX9_last_9 : decode cX9_last 9 = .ok (.iload_n 2, 1) := by decide +kernel
theorem dX9_last_10 : decode cX9_last 10 = .ok (.invokevirtual 136, 3) := by decide +kernel
theorem dX9_last_13 : decode cX9_last 13 = .ok (.ifCond .eq 12, 3) := by decide +kernel
theorem dX9_last_16 : decode cX9_last 16 = .ok (.aload_n 0, 1) := by decide +kernel
theorem dX9_last_17 : decode cX9_last 17 = .ok (.iload_n 1, 1) := by decide +kernel
theorem dX9_last_18 : decode cX9_last 18 = .ok (.iload_n 2, 1) := by decide +kernel
theorem dX9_last_19 : decode cX9_last 19 = .ok (.invokevirtual 237, 3) := by decide +kernel
theorem dX9_last_22 : decode cX9_last 22 = .ok (.goto 5, 3) := by decide +kernel
theorem dX9_last_25 : decode cX9_last 25 = .ok (.bipush (-2), 2) := by decide +kernel
theorem dX9_last_27 : decode cX9_last 27 = .ok (.ireturn, 1) := by decide +kernel
theorem dX9_togetherOf_0 : decode cX9_togetherOf 0 = .ok (.aload_n 0, 1) := by decide +kernel
theorem dX9_togetherOf_1 : decode cX9_togetherOf 1 = .ok (.invokevirtual 127, 3) := by decide +kernel
theorem dX9_togetherOf_4 : decode cX9_togetherOf 4 = .ok (.aload_n 0, 1) := by decide +kernel
theorem dX9_togetherOf_5 : decode cX9_togetherOf 5 = .ok (.invokevirtual 209, 3) := by decide +kernel
theorem dX9_togetherOf_8 : decode cX9_togetherOf 8 = .ok (.aload_n 0, 1) := by decide +kernel
theorem dX9_togetherOf_9 : decode cX9_togetherOf 9 = .ok (.invokevirtual 203, 3) := by decide +kernel
theorem dX9_togetherOf_12 : decode cX9_togetherOf 12 = .ok (.iconst 0, 1) := by decide +kernel
theorem dX9_togetherOf_13 : decode cX9_togetherOf 13 = .ok (.istore_n 2, 1) := by decide +kernel
theorem dX9_togetherOf_14 : decode cX9_togetherOf 14 = .ok (.iload_n 2, 1) := by decide +kernel
theorem dX9_togetherOf_15 : decode cX9_togetherOf 15 = .ok (.bipush 64, 2) := by decide +kernel
theorem dX9_togetherOf_17 : decode cX9_togetherOf 17 = .ok (.if_icmp .ge 23, 3) := by decide +kernel
theorem dX9_togetherOf_20 : decode cX9_togetherOf 20 = .ok (.aload_n 0, 1) := by decide +kernel
theorem dX9_togetherOf_21 : decode cX9_togetherOf 21 = .ok (.getfield 58, 3) := by decide +kernel
theorem dX9_togetherOf_24 : decode cX9_togetherOf 24 = .ok (.iload_n 2, 1) := by decide +kernel
theorem dX9_togetherOf_25 : decode cX9_togetherOf 25 = .ok (.iconst 0, 1) := by decide +kernel
theorem dX9_togetherOf_26 : decode cX9_togetherOf 26 = .ok (.bastore, 1) := by decide +kernel
theorem dX9_togetherOf_27 : decode cX9_togetherOf 27 = .ok (.aload_n 0, 1) := by decide +kernel
theorem dX9_togetherOf_28 : decode cX9_togetherOf 28 = .ok (.getfield 62, 3) := by decide +kernel
theorem dX9_togetherOf_31 : decode cX9_togetherOf 31 = .ok (.iload_n 2, 1) := by decide +kernel
theorem dX9_togetherOf_32 : decode cX9_togetherOf 32 = .ok (.iconst 0, 1) := by decide +kernel
theorem dX9_togetherOf_33 : decode cX9_togetherOf 33 = .ok (.bastore, 1) := by decide +kernel
theorem dX9_togetherOf_34 : decode cX9_togetherOf 34 = .ok (.iinc 2 1, 3) := by decide +kernel
theorem dX9_togetherOf_37 : decode cX9_togetherOf 37 = .ok (.goto (-23), 3) := by decide +kernel
theorem dX9_togetherOf_40 : decode cX9_togetherOf 40 = .ok (.iconst 0, 1) := by decide +kernel
theorem dX9_togetherOf_41 : decode cX9_togetherOf 41 = .ok (.istore_n 2, 1) := by decide +kernel
theorem dX9_togetherOf_42 : decode cX9_togetherOf 42 = .ok (.iload_n 2, 1) := by decide +kernel
theorem dX9_togetherOf_43 : decode cX9_togetherOf 43 = .ok (.bipush 24, 2) := by decide +kernel
theorem dX9_togetherOf_45 : decode cX9_togetherOf 45 = .ok (.if_icmp .ge 138, 3) := by decide +kernel
theorem dX9_togetherOf_48 : decode cX9_togetherOf 48 = .ok (.aload_n 0, 1) := by decide +kernel
theorem dX9_togetherOf_49 : decode cX9_togetherOf 49 = .ok (.iload_n 2, 1) := by decide +kernel
theorem dX9_togetherOf_50 : decode cX9_togetherOf 50 = .ok (.invokevirtual 206, 3) := by decide +kernel
theorem dX9_togetherOf_53 : decode cX9_togetherOf 53 = .ok (.iconst 0, 1) := by decide +kernel
theorem dX9_togetherOf_54 : decode cX9_togetherOf 54 = .ok (.istore_n 3, 1) := by decide +kernel
theorem dX9_togetherOf_55 : decode cX9_togetherOf 55 = .ok (.iload_n 3, 1) := by decide +kernel
theorem dX9_togetherOf_56 : decode cX9_togetherOf 56 = .ok (.aload_n 0, 1) := by decide +kernel
theorem dX9_togetherOf_57 : decode cX9_togetherOf 57 = .ok (.getfield 109, 3) := by decide +kernel
theorem dX9_togetherOf_60 : decode cX9_togetherOf 60 = .ok (.if_icmp .ge 117, 3) := by decide +kernel
theorem dX9_togetherOf_63 : decode cX9_togetherOf 63 = .ok (.aload_n 0, 1) := by decide +kernel
theorem dX9_togetherOf_64 : decode cX9_togetherOf 64 = .ok (.iload_n 3, 1) := by decide +kernel
theorem dX9_togetherOf_65 : decode cX9_togetherOf 65 = .ok (.invokevirtual 215, 3) := by decide +kernel
theorem dX9_togetherOf_68 : decode cX9_togetherOf 68 = .ok (.istore 4, 2) := by decide +kernel
theorem dX9_togetherOf_70 : decode cX9_togetherOf 70 = .ok (.iconst 0, 1) := by decide +kernel
theorem dX9_togetherOf_71 : decode cX9_togetherOf 71 = .ok (.istore 5, 2) := by decide +kernel
theorem dX9_togetherOf_73 : decode cX9_togetherOf 73 = .ok (.iload 5, 2) := by decide +kernel
theorem dX9_togetherOf_75 : decode cX9_togetherOf 75 = .ok (.bipush 64, 2) := by decide +kernel
theorem dX9_togetherOf_77 : decode cX9_togetherOf 77 = .ok (.if_icmp .ge 94, 3) := by decide +kernel
theorem dX9_togetherOf_80 : decode cX9_togetherOf 80 = .ok (.iload 4, 2) := by decide +kernel
theorem dX9_togetherOf_82 : decode cX9_togetherOf 82 = .ok (.iload 5, 2) := by decide +kernel
theorem dX9_togetherOf_84 : decode cX9_togetherOf 84 = .ok (.bipush 8, 2) := by decide +kernel
theorem dX9_togetherOf_86 : decode cX9_togetherOf 86 = .ok (.idiv, 1) := by decide +kernel
theorem dX9_togetherOf_87 : decode cX9_togetherOf 87 = .ok (.invokestatic 199, 3) := by decide +kernel
theorem dX9_togetherOf_90 : decode cX9_togetherOf 90 = .ok (.istore 6, 2) := by decide +kernel
theorem dX9_togetherOf_92 : decode cX9_togetherOf 92 = .ok (.iload 4, 2) := by decide +kernel
theorem dX9_togetherOf_94 : decode cX9_togetherOf 94 = .ok (.iload 5, 2) := by decide +kernel
theorem dX9_togetherOf_96 : decode cX9_togetherOf 96 = .ok (.bipush 8, 2) := by decide +kernel
theorem dX9_togetherOf_98 : decode cX9_togetherOf 98 = .ok (.irem, 1) := by decide +kernel
theorem dX9_togetherOf_99 : decode cX9_togetherOf 99 = .ok (.invokestatic 199, 3) := by decide +kernel
theorem dX9_togetherOf_102 : decode cX9_togetherOf 102 = .ok (.istore 7, 2) := by decide +kernel
theorem dX9_togetherOf_104 : decode cX9_togetherOf 104 = .ok (.aload_n 0, 1) := by decide +kernel
theorem dX9_togetherOf_105 : decode cX9_togetherOf 105 = .ok (.getfield 58, 3) := by decide +kernel
theorem dX9_togetherOf_108 : decode cX9_togetherOf 108 = .ok (.iload 5, 2) := by decide +kernel
theorem dX9_togetherOf_110 : decode cX9_togetherOf 110 = .ok (.aload_n 0, 1) := by decide +kernel
theorem dX9_togetherOf_111 : decode cX9_togetherOf 111 = .ok (.getfield 58, 3) := by decide +kernel
theorem dX9_togetherOf_114 : decode cX9_togetherOf 114 = .ok (.iload 5, 2) := by decide +kernel
theorem dX9_togetherOf_116 : decode cX9_togetherOf 116 = .ok (.baload, 1) := by decide +kernel
theorem dX9_togetherOf_117 : decode cX9_togetherOf 117 = .ok (.ifCond .ne 13, 3) := by decide +kernel
theorem dX9_togetherOf_120 : decode cX9_togetherOf 120 = .ok (.iload 6, 2) := by decide +kernel
theorem dX9_togetherOf_122 : decode cX9_togetherOf 122 = .ok (.ifCond .eq 12, 3) := by decide +kernel
theorem dX9_togetherOf_125 : decode cX9_togetherOf 125 = .ok (.iload 7, 2) := by decide +kernel
theorem dX9_togetherOf_127 : decode cX9_togetherOf 127 = .ok (.ifCond .eq 7, 3) := by decide +kernel
theorem dX9_togetherOf_130 : decode cX9_togetherOf 130 = .ok (.iconst 1, 1) := by decide +kernel
theorem dX9_togetherOf_131 : decode cX9_togetherOf 131 = .ok (.goto 4, 3) := by decide +kernel
theorem dX9_togetherOf_134 : decode cX9_togetherOf 134 = .ok (.iconst 0, 1) := by decide +kernel
theorem dX9_togetherOf_135 : decode cX9_togetherOf 135 = .ok (.bastore, 1) := by decide +kernel
theorem dX9_togetherOf_136 : decode cX9_togetherOf 136 = .ok (.aload_n 0, 1) := by decide +kernel
theorem dX9_togetherOf_137 : decode cX9_togetherOf 137 = .ok (.getfield 62, 3) := by decide +kernel
theorem dX9_togetherOf_140 : decode cX9_togetherOf 140 = .ok (.iload 5, 2) := by decide +kernel
theorem dX9_togetherOf_142 : decode cX9_togetherOf 142 = .ok (.aload_n 0, 1) := by decide +kernel
theorem dX9_togetherOf_143 : decode cX9_togetherOf 143 = .ok (.getfield 62, 3) := by decide +kernel
theorem dX9_togetherOf_146 : decode cX9_togetherOf 146 = .ok (.iload 5, 2) := by decide +kernel
theorem dX9_togetherOf_148 : decode cX9_togetherOf 148 = .ok (.baload, 1) := by decide +kernel
theorem dX9_togetherOf_149 : decode cX9_togetherOf 149 = .ok (.ifCond .ne 10, 3) := by decide +kernel
theorem dX9_togetherOf_152 : decode cX9_togetherOf 152 = .ok (.iload 6, 2) := by decide +kernel
theorem dX9_togetherOf_154 : decode cX9_togetherOf 154 = .ok (.iload 7, 2) := by decide +kernel
theorem dX9_togetherOf_156 : decode cX9_togetherOf 156 = .ok (.if_icmp .eq 7, 3) := by decide +kernel
theorem dX9_togetherOf_159 : decode cX9_togetherOf 159 = .ok (.iconst 1, 1) := by decide +kernel
theorem dX9_togetherOf_160 : decode cX9_togetherOf 160 = .ok (.goto 4, 3) := by decide +kernel
theorem dX9_togetherOf_163 : decode cX9_togetherOf 163 = .ok (.iconst 0, 1) := by decide +kernel
theorem dX9_togetherOf_164 : decode cX9_togetherOf 164 = .ok (.bastore, 1) := by decide +kernel
theorem dX9_togetherOf_165 : decode cX9_togetherOf 165 = .ok (.iinc 5 1, 3) := by decide +kernel
theorem dX9_togetherOf_168 : decode cX9_togetherOf 168 = .ok (.goto (-95), 3) := by decide +kernel
theorem dX9_togetherOf_171 : decode cX9_togetherOf 171 = .ok (.iinc 3 1, 3) := by decide +kernel
theorem dX9_togetherOf_174 : decode cX9_togetherOf 174 = .ok (.goto (-119), 3) := by decide +kernel
theorem dX9_togetherOf_177 : decode cX9_togetherOf 177 = .ok (.iinc 2 1, 3) := by decide +kernel
theorem dX9_togetherOf_180 : decode cX9_togetherOf 180 = .ok (.goto (-138), 3) := by decide +kernel
theorem dX9_togetherOf_183 : decode cX9_togetherOf 183 = .ok (.iconst 0, 1) := by decide +kernel
theorem dX9_togetherOf_184 : decode cX9_togetherOf 184 = .ok (.istore_n 2, 1) := by decide +kernel
theorem dX9_togetherOf_185 : decode cX9_togetherOf 185 = .ok (.iconst (-1), 1) := by decide +kernel
theorem dX9_togetherOf_186 : decode cX9_togetherOf 186 = .ok (.istore_n 3, 1) := by decide +kernel
theorem dX9_togetherOf_187 : decode cX9_togetherOf 187 = .ok (.iconst 0, 1) := by decide +kernel
theorem dX9_togetherOf_188 : decode cX9_togetherOf 188 = .ok (.istore 4, 2) := by decide +kernel
theorem dX9_togetherOf_190 : decode cX9_togetherOf 190 = .ok (.iload 4, 2) := by decide +kernel
theorem dX9_togetherOf_192 : decode cX9_togetherOf 192 = .ok (.bipush 64, 2) := by decide +kernel
theorem dX9_togetherOf_194 : decode cX9_togetherOf 194 = .ok (.if_icmp .ge 79, 3) := by decide +kernel
theorem dX9_togetherOf_197 : decode cX9_togetherOf 197 = .ok (.iload 4, 2) := by decide +kernel
theorem dX9_togetherOf_199 : decode cX9_togetherOf 199 = .ok (.bipush 8, 2) := by decide +kernel
theorem dX9_togetherOf_201 : decode cX9_togetherOf 201 = .ok (.idiv, 1) := by decide +kernel
theorem dX9_togetherOf_202 : decode cX9_togetherOf 202 = .ok (.iload 4, 2) := by decide +kernel
theorem dX9_togetherOf_204 : decode cX9_togetherOf 204 = .ok (.bipush 8, 2) := by decide +kernel
theorem dX9_togetherOf_206 : decode cX9_togetherOf 206 = .ok (.irem, 1) := by decide +kernel
theorem dX9_togetherOf_207 : decode cX9_togetherOf 207 = .ok (.if_icmp .ge 27, 3) := by decide +kernel
theorem dX9_togetherOf_210 : decode cX9_togetherOf 210 = .ok (.aload_n 0, 1) := by decide +kernel
theorem dX9_togetherOf_211 : decode cX9_togetherOf 211 = .ok (.getfield 58, 3) := by decide +kernel
theorem dX9_togetherOf_214 : decode cX9_togetherOf 214 = .ok (.iload 4, 2) := by decide +kernel
theorem dX9_togetherOf_216 : decode cX9_togetherOf 216 = .ok (.baload, 1) := by decide +kernel
theorem dX9_togetherOf_217 : decode cX9_togetherOf 217 = .ok (.ifCond .eq 17, 3) := by decide +kernel
theorem dX9_togetherOf_220 : decode cX9_togetherOf 220 = .ok (.aload_n 0, 1) := by decide +kernel
theorem dX9_togetherOf_221 : decode cX9_togetherOf 221 = .ok (.getfield 62, 3) := by decide +kernel
theorem dX9_togetherOf_224 : decode cX9_togetherOf 224 = .ok (.iload 4, 2) := by decide +kernel
theorem dX9_togetherOf_226 : decode cX9_togetherOf 226 = .ok (.baload, 1) := by decide +kernel
theorem dX9_togetherOf_227 : decode cX9_togetherOf 227 = .ok (.ifCond .ne 7, 3) := by decide +kernel
theorem dX9_togetherOf_230 : decode cX9_togetherOf 230 = .ok (.iconst 1, 1) := by decide +kernel
theorem dX9_togetherOf_231 : decode cX9_togetherOf 231 = .ok (.goto 4, 3) := by decide +kernel
theorem dX9_togetherOf_234 : decode cX9_togetherOf 234 = .ok (.iconst 0, 1) := by decide +kernel
theorem dX9_togetherOf_235 : decode cX9_togetherOf 235 = .ok (.istore 5, 2) := by decide +kernel
theorem dX9_togetherOf_237 : decode cX9_togetherOf 237 = .ok (.iload 5, 2) := by decide +kernel
theorem dX9_togetherOf_239 : decode cX9_togetherOf 239 = .ok (.ifCond .eq 13, 3) := by decide +kernel
theorem dX9_togetherOf_242 : decode cX9_togetherOf 242 = .ok (.iload_n 2, 1) := by decide +kernel
theorem dX9_togetherOf_243 : decode cX9_togetherOf 243 = .ok (.iload_n 1, 1) := by decide +kernel
theorem dX9_togetherOf_244 : decode cX9_togetherOf 244 = .ok (.if_icmp .ne 8, 3) := by decide +kernel
theorem dX9_togetherOf_247 : decode cX9_togetherOf 247 = .ok (.iload 4, 2) := by decide +kernel
theorem dX9_togetherOf_249 : decode cX9_togetherOf 249 = .ok (.goto 4, 3) := by decide +kernel
theorem dX9_togetherOf_252 : decode cX9_togetherOf 252 = .ok (.iload_n 3, 1) := by decide +kernel
theorem dX9_togetherOf_253 : decode cX9_togetherOf 253 = .ok (.istore_n 3, 1) := by decide +kernel
theorem dX9_togetherOf_254 : decode cX9_togetherOf 254 = .ok (.iload_n 2, 1) := by decide +kernel
theorem dX9_togetherOf_255 : decode cX9_togetherOf 255 = .ok (.iload 5, 2) := by decide +kernel
theorem dX9_togetherOf_257 : decode cX9_togetherOf 257 = .ok (.ifCond .eq 7, 3) := by decide +kernel
theorem dX9_togetherOf_260 : decode cX9_togetherOf 260 = .ok (.iconst 1, 1) := by decide +kernel
theorem dX9_togetherOf_261 : decode cX9_togetherOf 261 = .ok (.goto 4, 3) := by decide +kernel
theorem dX9_togetherOf_264 : decode cX9_togetherOf 264 = .ok (.iconst 0, 1) := by decide +kernel
theorem dX9_togetherOf_265 : decode cX9_togetherOf 265 = .ok (.iadd, 1) := by decide +kernel
theorem dX9_togetherOf_266 : decode cX9_togetherOf 266 = .ok (.istore_n 2, 1) := by decide +kernel
theorem dX9_togetherOf_267 : decode cX9_togetherOf 267 = .ok (.iinc 4 1, 3) := by decide +kernel
theorem dX9_togetherOf_270 : decode cX9_togetherOf 270 = .ok (.goto (-80), 3) := by decide +kernel
theorem dX9_togetherOf_273 : decode cX9_togetherOf 273 = .ok (.iload_n 1, 1) := by decide +kernel
theorem dX9_togetherOf_274 : decode cX9_togetherOf 274 = .ok (.iconst (-1), 1) := by decide +kernel
theorem dX9_togetherOf_275 : decode cX9_togetherOf 275 = .ok (.if_icmp .ne 7, 3) := by decide +kernel
theorem dX9_togetherOf_278 : decode cX9_togetherOf 278 = .ok (.iload_n 2, 1) := by decide +kernel
theorem dX9_togetherOf_279 : decode cX9_togetherOf 279 = .ok (.goto 4, 3) := by decide +kernel
theorem dX9_togetherOf_282 : decode cX9_togetherOf 282 = .ok (.iload_n 3, 1) := by decide +kernel
theorem dX9_togetherOf_283 : decode cX9_togetherOf 283 = .ok (.ireturn, 1) := by decide +kernel
theorem dX9_together_0 : decode cX9_together 0 = .ok (.iload_n 1, 1) := by decide +kernel
theorem dX9_together_1 : decode cX9_together 1 = .ok (.iconst (-1), 1) := by decide +kernel
theorem dX9_together_2 : decode cX9_together 2 = .ok (.bipush 27, 2) := by decide +kernel
theorem dX9_together_4 : decode cX9_together 4 = .ok (.invokestatic 97, 3) := by decide +kernel
theorem dX9_together_7 : decode cX9_together 7 = .ok (.ifCond .eq 11, 3) := by decide +kernel
theorem dX9_together_10 : decode cX9_together 10 = .ok (.aload_n 0, 1) := by decide +kernel
theorem dX9_together_11 : decode cX9_together 11 = .ok (.iload_n 1, 1) := by decide +kernel
theorem dX9_together_12 : decode cX9_together 12 = .ok (.invokevirtual 240, 3) := by decide +kernel
theorem dX9_together_15 : decode cX9_together 15 = .ok (.goto 5, 3) := by decide +kernel
theorem dX9_together_18 : decode cX9_together 18 = .ok (.bipush (-2), 2) := by decide +kernel
theorem dX9_together_20 : decode cX9_together 20 = .ok (.ireturn, 1) := by decide +kernel
theorem dX9_doesSit_0 : decode cX9_doesSit 0 = .ok (.aload_n 0, 1) := by decide +kernel
theorem dX9_doesSit_1 : decode cX9_doesSit 1 = .ok (.invokevirtual 209, 3) := by decide +kernel
theorem dX9_doesSit_4 : decode cX9_doesSit 4 = .ok (.iload_n 1, 1) := by decide +kernel
theorem dX9_doesSit_5 : decode cX9_doesSit 5 = .ok (.iconst (-1), 1) := by decide +kernel
theorem dX9_doesSit_6 : decode cX9_doesSit 6 = .ok (.if_icmp .eq 30, 3) := by decide +kernel
theorem dX9_doesSit_9 : decode cX9_doesSit 9 = .ok (.aload_n 0, 1) := by decide +kernel
theorem dX9_doesSit_10 : decode cX9_doesSit 10 = .ok (.aload_n 0, 1) := by decide +kernel
theorem dX9_doesSit_11 : decode cX9_doesSit 11 = .ok (.getfield 170, 3) := by decide +kernel
theorem dX9_doesSit_14 : decode cX9_doesSit 14 = .ok (.iload_n 3, 1) := by decide +kernel
theorem dX9_doesSit_15 : decode cX9_doesSit 15 = .ok (.iload_n 1, 1) := by decide +kernel
theorem dX9_doesSit_16 : decode cX9_doesSit 16 = .ok (.bipush 8, 2) := by decide +kernel
theorem dX9_doesSit_18 : decode cX9_doesSit 18 = .ok (.irem, 1) := by decide +kernel
theorem dX9_doesSit_19 : decode cX9_doesSit 19 = .ok (.iload_n 1, 1) := by decide +kernel
theorem dX9_doesSit_20 : decode cX9_doesSit 20 = .ok (.bipush 8, 2) := by decide +kernel
theorem dX9_doesSit_22 : decode cX9_doesSit 22 = .ok (.idiv, 1) := by decide +kernel
theorem dX9_doesSit_23 : decode cX9_doesSit 23 = .ok (.invokevirtual 154, 3) := by decide +kernel
theorem dX9_doesSit_26 : decode cX9_doesSit 26 = .ok (.aload_n 0, 1) := by decide +kernel
theorem dX9_doesSit_27 : decode cX9_doesSit 27 = .ok (.dup, 1) := by decide +kernel
theorem dX9_doesSit_28 : decode cX9_doesSit 28 = .ok (.getfield 170, 3) := by decide +kernel
theorem dX9_doesSit_31 : decode cX9_doesSit 31 = .ok (.iconst 1, 1) := by decide +kernel
theorem dX9_doesSit_32 : decode cX9_doesSit 32 = .ok (.iadd, 1) := by decide +kernel
theorem dX9_doesSit_33 : decode cX9_doesSit 33 = .ok (.putfield 170, 3) := by decide +kernel
theorem dX9_doesSit_36 : decode cX9_doesSit 36 = .ok (.iload_n 2, 1) := by decide +kernel
theorem dX9_doesSit_37 : decode cX9_doesSit 37 = .ok (.iconst (-1), 1) := by decide +kernel
theorem dX9_doesSit_38 : decode cX9_doesSit 38 = .ok (.if_icmp .eq 30, 3) := by decide +kernel
theorem dX9_doesSit_41 : decode cX9_doesSit 41 = .ok (.aload_n 0, 1) := by decide +kernel
theorem dX9_doesSit_42 : decode cX9_doesSit 42 = .ok (.aload_n 0, 1) := by decide +kernel
theorem dX9_doesSit_43 : decode cX9_doesSit 43 = .ok (.getfield 170, 3) := by decide +kernel
theorem dX9_doesSit_46 : decode cX9_doesSit 46 = .ok (.iload_n 3, 1) := by decide +kernel
theorem dX9_doesSit_47 : decode cX9_doesSit 47 = .ok (.iload_n 2, 1) := by decide +kernel
theorem dX9_doesSit_48 : decode cX9_doesSit 48 = .ok (.bipush 8, 2) := by decide +kernel
theorem dX9_doesSit_50 : decode cX9_doesSit 50 = .ok (.irem, 1) := by decide +kernel
theorem dX9_doesSit_51 : decode cX9_doesSit 51 = .ok (.iload_n 2, 1) := by decide +kernel
theorem dX9_doesSit_52 : decode cX9_doesSit 52 = .ok (.bipush 8, 2) := by decide +kernel
theorem dX9_doesSit_54 : decode cX9_doesSit 54 = .ok (.idiv, 1) := by decide +kernel
theorem dX9_doesSit_55 : decode cX9_doesSit 55 = .ok (.invokevirtual 154, 3) := by decide +kernel
theorem dX9_doesSit_58 : decode cX9_doesSit 58 = .ok (.aload_n 0, 1) := by decide +kernel
theorem dX9_doesSit_59 : decode cX9_doesSit 59 = .ok (.dup, 1) := by decide +kernel
theorem dX9_doesSit_60 : decode cX9_doesSit 60 = .ok (.getfield 170, 3) := by decide +kernel
theorem dX9_doesSit_63 : decode cX9_doesSit 63 = .ok (.iconst 1, 1) := by decide +kernel
theorem dX9_doesSit_64 : decode cX9_doesSit 64 = .ok (.iadd, 1) := by decide +kernel
theorem dX9_doesSit_65 : decode cX9_doesSit 65 = .ok (.putfield 170, 3) := by decide +kernel
theorem dX9_doesSit_68 : decode cX9_doesSit 68 = .ok (.aload_n 0, 1) := by decide +kernel
theorem dX9_doesSit_69 : decode cX9_doesSit 69 = .ok (.iload 4, 2) := by decide +kernel
theorem dX9_doesSit_71 : decode cX9_doesSit 71 = .ok (.invokevirtual 212, 3) := by decide +kernel
theorem dX9_doesSit_74 : decode cX9_doesSit 74 = .ok (.aload_n 0, 1) := by decide +kernel
theorem dX9_doesSit_75 : decode cX9_doesSit 75 = .ok (.getfield 65, 3) := by decide +kernel
theorem dX9_doesSit_78 : decode cX9_doesSit 78 = .ok (.iconst 0, 1) := by decide +kernel
theorem dX9_doesSit_79 : decode cX9_doesSit 79 = .ok (.iload_n 1, 1) := by decide +kernel
theorem dX9_doesSit_80 : decode cX9_doesSit 80 = .ok (.iastore, 1) := by decide +kernel
theorem dX9_doesSit_81 : decode cX9_doesSit 81 = .ok (.aload_n 0, 1) := by decide +kernel
theorem dX9_doesSit_82 : decode cX9_doesSit 82 = .ok (.getfield 65, 3) := by decide +kernel
theorem dX9_doesSit_85 : decode cX9_doesSit 85 = .ok (.iconst 1, 1) := by decide +kernel
theorem dX9_doesSit_86 : decode cX9_doesSit 86 = .ok (.iload_n 2, 1) := by decide +kernel
theorem dX9_doesSit_87 : decode cX9_doesSit 87 = .ok (.iastore, 1) := by decide +kernel
theorem dX9_doesSit_88 : decode cX9_doesSit 88 = .ok (.iload 5, 2) := by decide +kernel
theorem dX9_doesSit_90 : decode cX9_doesSit 90 = .ok (.iconst (-1), 1) := by decide +kernel
theorem dX9_doesSit_91 : decode cX9_doesSit 91 = .ok (.if_icmp .ne 21, 3) := by decide +kernel
theorem dX9_doesSit_94 : decode cX9_doesSit 94 = .ok (.aload_n 0, 1) := by decide +kernel
theorem dX9_doesSit_95 : decode cX9_doesSit 95 = .ok (.invokevirtual 227, 3) := by decide +kernel
theorem dX9_doesSit_98 : decode cX9_doesSit 98 = .ok (.iload 6, 2) := by decide +kernel
theorem dX9_doesSit_100 : decode cX9_doesSit 100 = .ok (.iand, 1) := by decide +kernel
theorem dX9_doesSit_101 : decode cX9_doesSit 101 = .ok (.ifCond .ne 7, 3) := by decide +kernel
theorem dX9_doesSit_104 : decode cX9_doesSit 104 = .ok (.iconst 1, 1) := by decide +kernel
theorem dX9_doesSit_105 : decode cX9_doesSit 105 = .ok (.goto 23, 3) := by decide +kernel
theorem dX9_doesSit_108 : decode cX9_doesSit 108 = .ok (.iconst 0, 1) := by decide +kernel
theorem dX9_doesSit_109 : decode cX9_doesSit 109 = .ok (.goto 19, 3) := by decide +kernel
theorem dX9_doesSit_112 : decode cX9_doesSit 112 = .ok (.aload_n 0, 1) := by decide +kernel
theorem dX9_doesSit_113 : decode cX9_doesSit 113 = .ok (.iload 5, 2) := by decide +kernel
theorem dX9_doesSit_115 : decode cX9_doesSit 115 = .ok (.invokevirtual 215, 3) := by decide +kernel
theorem dX9_doesSit_118 : decode cX9_doesSit 118 = .ok (.iload 6, 2) := by decide +kernel
theorem dX9_doesSit_120 : decode cX9_doesSit 120 = .ok (.if_icmp .ne 7, 3) := by decide +kernel
theorem dX9_doesSit_123 : decode cX9_doesSit 123 = .ok (.iconst 1, 1) := by decide +kernel
theorem dX9_doesSit_124 : decode cX9_doesSit 124 = .ok (.goto 4, 3) := by decide +kernel
theorem dX9_doesSit_127 : decode cX9_doesSit 127 = .ok (.iconst 0, 1) := by decide +kernel
theorem dX9_doesSit_128 : decode cX9_doesSit 128 = .ok (.ireturn, 1) := by decide +kernel
theorem dX9_mayCode_0 : decode cX9_mayCode 0 = .ok (.iload_n 1, 1) := by decide +kernel
theorem dX9_mayCode_1 : decode cX9_mayCode 1 = .ok (.bipush 8, 2) := by decide +kernel
theorem dX9_mayCode_3 : decode cX9_mayCode 3 = .ok (.irem, 1) := by decide +kernel
theorem dX9_mayCode_4 : decode cX9_mayCode 4 = .ok (.aload_n 0, 1) := by decide +kernel
theorem dX9_mayCode_5 : decode cX9_mayCode 5 = .ok (.getfield 113, 3) := by decide +kernel
theorem dX9_mayCode_8 : decode cX9_mayCode 8 = .ok (.if_icmp .ge 26, 3) := by decide +kernel
theorem dX9_mayCode_11 : decode cX9_mayCode 11 = .ok (.iload_n 1, 1) := by decide +kernel
theorem dX9_mayCode_12 : decode cX9_mayCode 12 = .ok (.bipush 8, 2) := by decide +kernel
theorem dX9_mayCode_14 : decode cX9_mayCode 14 = .ok (.idiv, 1) := by decide +kernel
theorem dX9_mayCode_15 : decode cX9_mayCode 15 = .ok (.aload_n 0, 1) := by decide +kernel
theorem dX9_mayCode_16 : decode cX9_mayCode 16 = .ok (.getfield 109, 3) := by decide +kernel
theorem dX9_mayCode_19 : decode cX9_mayCode 19 = .ok (.if_icmp .ge 15, 3) := by decide +kernel
theorem dX9_mayCode_22 : decode cX9_mayCode 22 = .ok (.iload_n 1, 1) := by decide +kernel
theorem dX9_mayCode_23 : decode cX9_mayCode 23 = .ok (.bipush 8, 2) := by decide +kernel
theorem dX9_mayCode_25 : decode cX9_mayCode 25 = .ok (.irem, 1) := by decide +kernel
theorem dX9_mayCode_26 : decode cX9_mayCode 26 = .ok (.iload_n 2, 1) := by decide +kernel
theorem dX9_mayCode_27 : decode cX9_mayCode 27 = .ok (.if_icmp .eq 7, 3) := by decide +kernel
theorem dX9_mayCode_30 : decode cX9_mayCode 30 = .ok (.iconst 1, 1) := by decide +kernel
theorem dX9_mayCode_31 : decode cX9_mayCode 31 = .ok (.goto 4, 3) := by decide +kernel
theorem dX9_mayCode_34 : decode cX9_mayCode 34 = .ok (.iconst 0, 1) := by decide +kernel
theorem dX9_mayCode_35 : decode cX9_mayCode 35 = .ok (.ireturn, 1) := by decide +kernel
theorem dX9_sitsMore_0 : decode cX9_sitsMore 0 = .ok (.aload_n 0, 1) := by decide +kernel
theorem dX9_sitsMore_1 : decode cX9_sitsMore 1 = .ok (.iconst (-1), 1) := by decide +kernel
theorem dX9_sitsMore_2 : decode cX9_sitsMore 2 = .ok (.iconst (-1), 1) := by decide +kernel
theorem dX9_sitsMore_3 : decode cX9_sitsMore 3 = .ok (.iload_n 2, 1) := by decide +kernel
theorem dX9_sitsMore_4 : decode cX9_sitsMore 4 = .ok (.iload_n 3, 1) := by decide +kernel
theorem dX9_sitsMore_5 : decode cX9_sitsMore 5 = .ok (.iload 4, 2) := by decide +kernel
theorem dX9_sitsMore_7 : decode cX9_sitsMore 7 = .ok (.iload 5, 2) := by decide +kernel
theorem dX9_sitsMore_9 : decode cX9_sitsMore 9 = .ok (.invokevirtual 243, 3) := by decide +kernel
theorem dX9_sitsMore_12 : decode cX9_sitsMore 12 = .ok (.ifCond .eq 5, 3) := by decide +kernel
theorem dX9_sitsMore_15 : decode cX9_sitsMore 15 = .ok (.iconst 0, 1) := by decide +kernel
theorem dX9_sitsMore_16 : decode cX9_sitsMore 16 = .ok (.ireturn, 1) := by decide +kernel
theorem dX9_sitsMore_17 : decode cX9_sitsMore 17 = .ok (.iconst 0, 1) := by decide +kernel
theorem dX9_sitsMore_18 : decode cX9_sitsMore 18 = .ok (.istore 6, 2) := by decide +kernel
theorem dX9_sitsMore_20 : decode cX9_sitsMore 20 = .ok (.iload 6, 2) := by decide +kernel
theorem dX9_sitsMore_22 : decode cX9_sitsMore 22 = .ok (.bipush 48, 2) := by decide +kernel
theorem dX9_sitsMore_24 : decode cX9_sitsMore 24 = .ok (.if_icmp .ge 37, 3) := by decide +kernel
theorem dX9_sitsMore_27 : decode cX9_sitsMore 27 = .ok (.aload_n 0, 1) := by decide +kernel
theorem dX9_sitsMore_28 : decode cX9_sitsMore 28 = .ok (.iload 6, 2) := by decide +kernel
theorem dX9_sitsMore_30 : decode cX9_sitsMore 30 = .ok (.iload_n 1, 1) := by decide +kernel
theorem dX9_sitsMore_31 : decode cX9_sitsMore 31 = .ok (.invokevirtual 247, 3) := by decide +kernel
theorem dX9_sitsMore_34 : decode cX9_sitsMore 34 = .ok (.ifCond .eq 21, 3) := by decide +kernel
theorem dX9_sitsMore_37 : decode cX9_sitsMore 37 = .ok (.aload_n 0, 1) := by decide +kernel
theorem dX9_sitsMore_38 : decode cX9_sitsMore 38 = .ok (.iload 6, 2) := by decide +kernel
theorem dX9_sitsMore_40 : decode cX9_sitsMore 40 = .ok (.iconst (-1), 1) := by decide +kernel
theorem dX9_sitsMore_41 : decode cX9_sitsMore 41 = .ok (.iload_n 2, 1) := by decide +kernel
theorem dX9_sitsMore_42 : decode cX9_sitsMore 42 = .ok (.iload_n 3, 1) := by decide +kernel
theorem dX9_sitsMore_43 : decode cX9_sitsMore 43 = .ok (.iload 4, 2) := by decide +kernel
theorem dX9_sitsMore_45 : decode cX9_sitsMore 45 = .ok (.iload 5, 2) := by decide +kernel
theorem dX9_sitsMore_47 : decode cX9_sitsMore 47 = .ok (.invokevirtual 243, 3) := by decide +kernel
theorem dX9_sitsMore_50 : decode cX9_sitsMore 50 = .ok (.ifCond .eq 5, 3) := by decide +kernel
theorem dX9_sitsMore_53 : decode cX9_sitsMore 53 = .ok (.iconst 1, 1) := by decide +kernel
theorem dX9_sitsMore_54 : decode cX9_sitsMore 54 = .ok (.ireturn, 1) := by decide +kernel
theorem dX9_sitsMore_55 : decode cX9_sitsMore 55 = .ok (.iinc 6 1, 3) := by decide +kernel
theorem dX9_sitsMore_58 : decode cX9_sitsMore 58 = .ok (.goto (-38), 3) := by decide +kernel
theorem dX9_sitsMore_61 : decode cX9_sitsMore 61 = .ok (.iconst 0, 1) := by decide +kernel
theorem dX9_sitsMore_62 : decode cX9_sitsMore 62 = .ok (.istore 6, 2) := by decide +kernel
theorem dX9_sitsMore_64 : decode cX9_sitsMore 64 = .ok (.iload 6, 2) := by decide +kernel
theorem dX9_sitsMore_66 : decode cX9_sitsMore 66 = .ok (.bipush 48, 2) := by decide +kernel
theorem dX9_sitsMore_68 : decode cX9_sitsMore 68 = .ok (.if_icmp .ge 65, 3) := by decide +kernel
theorem dX9_sitsMore_71 : decode cX9_sitsMore 71 = .ok (.iload 6, 2) := by decide +kernel
theorem dX9_sitsMore_73 : decode cX9_sitsMore 73 = .ok (.istore 7, 2) := by decide +kernel
theorem dX9_sitsMore_75 : decode cX9_sitsMore 75 = .ok (.iload 7, 2) := by decide +kernel
theorem dX9_sitsMore_77 : decode cX9_sitsMore 77 = .ok (.bipush 48, 2) := by decide +kernel
theorem dX9_sitsMore_79 : decode cX9_sitsMore 79 = .ok (.if_icmp .ge 48, 3) := by decide +kernel
theorem dX9_sitsMore_82 : decode cX9_sitsMore 82 = .ok (.aload_n 0, 1) := by decide +kernel
theorem dX9_sitsMore_83 : decode cX9_sitsMore 83 = .ok (.iload 6, 2) := by decide +kernel
theorem dX9_sitsMore_85 : decode cX9_sitsMore 85 = .ok (.iload_n 1, 1) := by decide +kernel
theorem dX9_sitsMore_86 : decode cX9_sitsMore 86 = .ok (.invokevirtual 247, 3) := by decide +kernel
theorem dX9_sitsMore_89 : decode cX9_sitsMore 89 = .ok (.ifCond .eq 32, 3) := by decide +kernel
theorem dX9_sitsMore_92 : decode cX9_sitsMore 92 = .ok (.aload_n 0, 1) := by decide +kernel
theorem dX9_sitsMore_93 : decode cX9_sitsMore 93 = .ok (.iload 7, 2) := by decide +kernel
theorem dX9_sitsMore_95 : decode cX9_sitsMore 95 = .ok (.iload_n 1, 1) := by decide +kernel
theorem dX9_sitsMore_96 : decode cX9_sitsMore 96 = .ok (.invokevirtual 247, 3) := by decide +kernel
theorem dX9_sitsMore_99 : decode cX9_sitsMore 99 = .ok (.ifCond .eq 22, 3) := by decide +kernel
theorem dX9_sitsMore_102 : decode cX9_sitsMore 102 = .ok (.aload_n 0, 1) := by decide +kernel
theorem dX9_sitsMore_103 : decode cX9_sitsMore 103 = .ok (.iload 6, 2) := by decide +kernel
theorem dX9_sitsMore_105 : decode cX9_sitsMore 105 = .ok (.iload 7, 2) := by decide +kernel
theorem dX9_sitsMore_107 : decode cX9_sitsMore 107 = .ok (.iload_n 2, 1) := by decide +kernel
theorem dX9_sitsMore_108 : decode cX9_sitsMore 108 = .ok (.iload_n 3, 1) := by decide +kernel
theorem dX9_sitsMore_109 : decode cX9_sitsMore 109 = .ok (.iload 4, 2) := by decide +kernel
theorem dX9_sitsMore_111 : decode cX9_sitsMore 111 = .ok (.iload 5, 2) := by decide +kernel
theorem dX9_sitsMore_113 : decode cX9_sitsMore 113 = .ok (.invokevirtual 243, 3) := by decide +kernel
theorem dX9_sitsMore_116 : decode cX9_sitsMore 116 = .ok (.ifCond .eq 5, 3) := by decide +kernel
theorem dX9_sitsMore_119 : decode cX9_sitsMore 119 = .ok (.iconst 2, 1) := by decide +kernel
theorem dX9_sitsMore_120 : decode cX9_sitsMore 120 = .ok (.ireturn, 1) := by decide +kernel
theorem dX9_sitsMore_121 : decode cX9_sitsMore 121 = .ok (.iinc 7 1, 3) := by decide +kernel
theorem dX9_sitsMore_124 : decode cX9_sitsMore 124 = .ok (.goto (-49), 3) := by decide +kernel
theorem dX9_sitsMore_127 : decode cX9_sitsMore 127 = .ok (.iinc 6 1, 3) := by decide +kernel
theorem dX9_sitsMore_130 : decode cX9_sitsMore 130 = .ok (.goto (-66), 3) := by decide +kernel
theorem dX9_sitsMore_133 : decode cX9_sitsMore 133 = .ok (.iconst (-1), 1) := by decide +kernel
theorem dX9_sitsMore_134 : decode cX9_sitsMore 134 = .ok (.ireturn, 1) := by decide +kernel
theorem dX9_ofRow_0 : decode cX9_ofRow 0 = .ok (.iload_n 2, 1) := by decide +kernel
theorem dX9_ofRow_1 : decode cX9_ofRow 1 = .ok (.iconst (-1), 1) := by decide +kernel
theorem dX9_ofRow_2 : decode cX9_ofRow 2 = .ok (.if_icmp .ne 7, 3) := by decide +kernel
theorem dX9_ofRow_5 : decode cX9_ofRow 5 = .ok (.iload_n 1, 1) := by decide +kernel
theorem dX9_ofRow_6 : decode cX9_ofRow 6 = .ok (.goto 18, 3) := by decide +kernel
theorem dX9_ofRow_9 : decode cX9_ofRow 9 = .ok (.iload_n 2, 1) := by decide +kernel
theorem dX9_ofRow_10 : decode cX9_ofRow 10 = .ok (.iload_n 1, 1) := by decide +kernel
theorem dX9_ofRow_11 : decode cX9_ofRow 11 = .ok (.if_icmp .ge 12, 3) := by decide +kernel
theorem dX9_ofRow_14 : decode cX9_ofRow 14 = .ok (.aload_n 0, 1) := by decide +kernel
theorem dX9_ofRow_15 : decode cX9_ofRow 15 = .ok (.getfield 65, 3) := by decide +kernel
theorem dX9_ofRow_18 : decode cX9_ofRow 18 = .ok (.iload_n 2, 1) := by decide +kernel
theorem dX9_ofRow_19 : decode cX9_ofRow 19 = .ok (.iaload, 1) := by decide +kernel
theorem dX9_ofRow_20 : decode cX9_ofRow 20 = .ok (.goto 4, 3) := by decide +kernel
theorem dX9_ofRow_23 : decode cX9_ofRow 23 = .ok (.iconst (-1), 1) := by decide +kernel
theorem dX9_ofRow_24 : decode cX9_ofRow 24 = .ok (.ireturn, 1) := by decide +kernel
theorem dX9_hideOf_0 : decode cX9_hideOf 0 = .ok (.aload_n 0, 1) := by decide +kernel
theorem dX9_hideOf_1 : decode cX9_hideOf 1 = .ok (.invokevirtual 127, 3) := by decide +kernel
theorem dX9_hideOf_4 : decode cX9_hideOf 4 = .ok (.aload_n 0, 1) := by decide +kernel
theorem dX9_hideOf_5 : decode cX9_hideOf 5 = .ok (.aload_n 0, 1) := by decide +kernel
theorem dX9_hideOf_6 : decode cX9_hideOf 6 = .ok (.iload_n 1, 1) := by decide +kernel
theorem dX9_hideOf_7 : decode cX9_hideOf 7 = .ok (.iload_n 2, 1) := by decide +kernel
theorem dX9_hideOf_8 : decode cX9_hideOf 8 = .ok (.iload_n 3, 1) := by decide +kernel
theorem dX9_hideOf_9 : decode cX9_hideOf 9 = .ok (.iconst (-1), 1) := by decide +kernel
theorem dX9_hideOf_10 : decode cX9_hideOf 10 = .ok (.iconst 1, 1) := by decide +kernel
theorem dX9_hideOf_11 : decode cX9_hideOf 11 = .ok (.aload_n 0, 1) := by decide +kernel
theorem dX9_hideOf_12 : decode cX9_hideOf 12 = .ok (.iload_n 1, 1) := by decide +kernel
theorem dX9_hideOf_13 : decode cX9_hideOf 13 = .ok (.invokevirtual 133, 3) := by decide +kernel
theorem dX9_hideOf_16 : decode cX9_hideOf 16 = .ok (.ishl, 1) := by decide +kernel
theorem dX9_hideOf_17 : decode cX9_hideOf 17 = .ok (.invokevirtual 250, 3) := by decide +kernel
theorem dX9_hideOf_20 : decode cX9_hideOf 20 = .ok (.iload 4, 2) := by decide +kernel
theorem dX9_hideOf_22 : decode cX9_hideOf 22 = .ok (.invokevirtual 254, 3) := by decide +kernel
theorem dX9_hideOf_25 : decode cX9_hideOf 25 = .ok (.ireturn, 1) := by decide +kernel
theorem dX9_hide_0 : decode cX9_hide 0 = .ok (.aload_n 0, 1) := by decide +kernel
theorem dX9_hide_1 : decode cX9_hide 1 = .ok (.iload_n 1, 1) := by decide +kernel
theorem dX9_hide_2 : decode cX9_hide 2 = .ok (.invokevirtual 136, 3) := by decide +kernel
theorem dX9_hide_5 : decode cX9_hide 5 = .ok (.ifCond .eq 39, 3) := by decide +kernel
theorem dX9_hide_8 : decode cX9_hide 8 = .ok (.iload_n 2, 1) := by decide +kernel
theorem dX9_hide_9 : decode cX9_hide 9 = .ok (.invokestatic 142, 3) := by decide +kernel
theorem dX9_hide_12 : decode cX9_hide 12 = .ok (.ifCond .eq 32, 3) := by decide +kernel
theorem dX9_hide_15 : decode cX9_hide 15 = .ok (.iload_n 3, 1) := by decide +kernel
theorem dX9_hide_16 : decode cX9_hide 16 = .ok (.invokestatic 142, 3) := by decide +kernel
theorem dX9_hide_19 : decode cX9_hide 19 = .ok (.ifCond .eq 25, 3) := by decide +kernel
