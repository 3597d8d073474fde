theorem dX10_init_0 : decode cX10_init 0 = .ok (.aload_n 0, 1) := by decide +kernel
theorem dX10_init_1 : decode cX10_init 1 = .ok (.invokespecial 3, 3) := by decide +kernel
theorem dX10_init_4 : decode cX10_init 4 = .ok (.aload_n 0, 1) := by decide +kernel
theorem dX10_init_5 : decode cX10_init 5 = .ok (.bipush 30, 2) := by decide +kernel
theorem dX10_init_7 : decode cX10_init 7 = .ok (.newarray .int, 2) := by decide +kernel
theorem dX10_init_9 : decode cX10_init 9 = .ok (.putfield 9, 3) := by decide +kernel
theorem dX10_init_12 : decode cX10_init 12 = .ok (.aload_n 0, 1) := by decide +kernel
theorem dX10_init_13 : decode cX10_init 13 = .ok (.bipush 30, 2) := by decide +kernel
theorem dX10_init_15 : decode cX10_init 15 = .ok (.newarray .int, 2) := by decide +kernel
theorem dX10_init_17 : decode cX10_init 17 = .ok (.putfield 15, 3) := by decide +kernel
theorem dX10_init_20 : decode cX10_init 20 = .ok (.aload_n 0, 1) := by decide +kernel
theorem dX10_init_21 : decode cX10_init 21 = .ok (.bipush 30, 2) := by decide +kernel
theorem dX10_init_23 : decode cX10_init 23 = .ok (.newarray .int, 2) := by decide +kernel
theorem dX10_init_25 : decode cX10_init 25 = .ok (.putfield 18, 3) := by decide +kernel
theorem dX10_init_28 : decode cX10_init 28 = .ok (.aload_n 0, 1) := by decide +kernel
theorem dX10_init_29 : decode cX10_init 29 = .ok (.bipush 24, 2) := by decide +kernel
theorem dX10_init_31 : decode cX10_init 31 = .ok (.newarray .int, 2) := by decide +kernel
theorem dX10_init_33 : decode cX10_init 33 = .ok (.putfield 21, 3) := by decide +kernel
theorem dX10_init_36 : decode cX10_init 36 = .ok (.aload_n 0, 1) := by decide +kernel
theorem dX10_init_37 : decode cX10_init 37 = .ok (.iconst 2, 1) := by decide +kernel
theorem dX10_init_38 : decode cX10_init 38 = .ok (.newarray .int, 2) := by decide +kernel
theorem dX10_init_40 : decode cX10_init 40 = .ok (.putfield 24, 3) := by decide +kernel
theorem dX10_init_43 : decode cX10_init 43 = .ok (.aload_n 0, 1) := by decide +kernel
theorem dX10_init_44 : decode cX10_init 44 = .ok (.bipush 120, 2) := by decide +kernel
theorem dX10_init_46 : decode cX10_init 46 = .ok (.newarray .int, 2) := by decide +kernel
theorem dX10_init_48 : decode cX10_init 48 = .ok (.putfield 27, 3) := by decide +kernel
theorem dX10_init_51 : decode cX10_init 51 = .ok (.aload_n 0, 1) := by decide +kernel
theorem dX10_init_52 : decode cX10_init 52 = .ok (.bipush 60, 2) := by decide +kernel
theorem dX10_init_54 : decode cX10_init 54 = .ok (.newarray .int, 2) := by decide +kernel
theorem dX10_init_56 : decode cX10_init 56 = .ok (.putfield 30, 3) := by decide +kernel
theorem dX10_init_59 : decode cX10_init 59 = .ok (.aload_n 0, 1) := by decide +kernel
theorem dX10_init_60 : decode cX10_init 60 = .ok (.bipush 60, 2) := by decide +kernel
theorem dX10_init_62 : decode cX10_init 62 = .ok (.newarray .int, 2) := by decide +kernel
theorem dX10_init_64 : decode cX10_init 64 = .ok (.putfield 33, 3) := by decide +kernel
theorem dX10_init_67 : decode cX10_init 67 = .ok (.aload_n 0, 1) := by decide +kernel
theorem dX10_init_68 : decode cX10_init 68 = .ok (.bipush 60, 2) := by decide +kernel
theorem dX10_init_70 : decode cX10_init 70 = .ok (.newarray .int, 2) := by decide +kernel
theorem dX10_init_72 : decode cX10_init 72 = .ok (.putfield 36, 3) := by decide +kernel
theorem dX10_init_75 : decode cX10_init 75 = .ok (.aload_n 0, 1) := by decide +kernel
theorem dX10_init_76 : decode cX10_init 76 = .ok (.sipush 200, 3) := by decide +kernel
theorem dX10_init_79 : decode cX10_init 79 = .ok (.newarray .int, 2) := by decide +kernel
theorem dX10_init_81 : decode cX10_init 81 = .ok (.putfield 39, 3) := by decide +kernel
theorem dX10_init_84 : decode cX10_init 84 = .ok (.aload_n 0, 1) := by decide +kernel
theorem dX10_init_85 : decode cX10_init 85 = .ok (.bipush 61, 2) := by decide +kernel
theorem dX10_init_87 : decode cX10_init 87 = .ok (.newarray .int, 2) := by decide +kernel
theorem dX10_init_89 : decode cX10_init 89 = .ok (.putfield 42, 3) := by decide +kernel
theorem dX10_init_92 : decode cX10_init 92 = .ok (.aload_n 0, 1) := by decide +kernel
theorem dX10_init_93 : decode cX10_init 93 = .ok (.bipush 61, 2) := by decide +kernel
theorem dX10_init_95 : decode cX10_init 95 = .ok (.newarray .int, 2) := by decide +kernel
theorem dX10_init_97 : decode cX10_init 97 = .ok (.putfield 45, 3) := by decide +kernel
theorem dX10_init_100 : decode cX10_init 100 = .ok (.aload_n 0, 1) := by decide +kernel
theorem dX10_init_101 : decode cX10_init 101 = .ok (.bipush 61, 2) := by decide +kernel
theorem dX10_init_103 : decode cX10_init 103 = .ok (.newarray .int, 2) := by decide +kernel
theorem dX10_init_105 : decode cX10_init 105 = .ok (.putfield 48, 3) := by decide +kernel
theorem dX10_init_108 : decode cX10_init 108 = .ok (.aload_n 0, 1) := by decide +kernel
theorem dX10_init_109 : decode cX10_init 109 = .ok (.sipush 200, 3) := by decide +kernel
theorem dX10_init_112 : decode cX10_init 112 = .ok (.newarray .int, 2) := by decide +kernel
theorem dX10_init_114 : decode cX10_init 114 = .ok (.putfield 51, 3) := by decide +kernel
theorem dX10_init_117 : decode cX10_init 117 = .ok (.aload_n 0, 1) := by decide +kernel
theorem dX10_init_118 : decode cX10_init 118 = .ok (.sipush 200, 3) := by decide +kernel
theorem dX10_init_121 : decode cX10_init 121 = .ok (.newarray .int, 2) := by decide +kernel
theorem dX10_init_123 : decode cX10_init 123 = .ok (.putfield 54, 3) := by decide +kernel
theorem dX10_init_126 : decode cX10_init 126 = .ok (.aload_n 0, 1) := by decide +kernel
theorem dX10_init_127 : decode cX10_init 127 = .ok (.bipush 6, 2) := by decide +kernel
theorem dX10_init_129 : decode cX10_init 129 = .ok (.newarray .int, 2) := by decide +kernel
theorem dX10_init_131 : decode cX10_init 131 = .ok (.putfield 57, 3) := by decide +kernel
theorem dX10_init_134 : decode cX10_init 134 = .ok (.aload_n 0, 1) := by decide +kernel
theorem dX10_init_135 : decode cX10_init 135 = .ok (.iconst 5, 1) := by decide +kernel
theorem dX10_init_136 : decode cX10_init 136 = .ok (.newarray .int, 2) := by decide +kernel
theorem dX10_init_138 : decode cX10_init 138 = .ok (.putfield 60, 3) := by decide +kernel
theorem dX10_init_141 : decode cX10_init 141 = .ok (.aload_n 0, 1) := by decide +kernel
theorem dX10_init_142 : decode cX10_init 142 = .ok (.bipush 92, 2) := by decide +kernel
theorem dX10_init_144 : decode cX10_init 144 = .ok (.newarray .int, 2) := by decide +kernel
theorem dX10_init_146 : decode cX10_init 146 = .ok (.putfield 63, 3) := by decide +kernel
theorem dX10_init_149 : decode cX10_init 149 = .ok (.aload_n 0, 1) := by decide +kernel
theorem dX10_init_150 : decode cX10_init 150 = .ok (.iconst 5, 1) := by decide +kernel
theorem dX10_init_151 : decode cX10_init 151 = .ok (.newarray .int, 2) := by decide +kernel
theorem dX10_init_153 : decode cX10_init 153 = .ok (.putfield 66, 3) := by decide +kernel
theorem dX10_init_156 : decode cX10_init 156 = .ok (.aload_n 0, 1) := by decide +kernel
theorem dX10_init_157 : decode cX10_init 157 = .ok (.sipush 160, 3) := by decide +kernel
theorem dX10_init_160 : decode cX10_init 160 = .ok (.newarray .int, 2) := by decide +kernel
theorem dX10_init_162 : decode cX10_init 162 = .ok (.putfield 69, 3) := by decide +kernel
theorem dX10_init_165 : decode cX10_init 165 = .ok (.aload_n 0, 1) := by decide +kernel
theorem dX10_init_166 : decode cX10_init 166 = .ok (.bipush 50, 2) := by decide +kernel
theorem dX10_init_168 : decode cX10_init 168 = .ok (.newarray .int, 2) := by decide +kernel
theorem dX10_init_170 : decode cX10_init 170 = .ok (.putfield 72, 3) := by decide +kernel
theorem dX10_init_173 : decode cX10_init 173 = .ok (.aload_n 0, 1) := by decide +kernel
theorem dX10_init_174 : decode cX10_init 174 = .ok (.bipush 24, 2) := by decide +kernel
theorem dX10_init_176 : decode cX10_init 176 = .ok (.newarray .int, 2) := by decide +kernel
theorem dX10_init_178 : decode cX10_init 178 = .ok (.putfield 75, 3) := by decide +kernel
theorem dX10_init_181 : decode cX10_init 181 = .ok (.aload_n 0, 1) := by decide +kernel
theorem dX10_init_182 : decode cX10_init 182 = .ok (.bipush 6, 2) := by decide +kernel
theorem dX10_init_184 : decode cX10_init 184 = .ok (.newarray .int, 2) := by decide +kernel
theorem dX10_init_186 : decode cX10_init 186 = .ok (.putfield 78, 3) := by decide +kernel
theorem dX10_init_189 : decode cX10_init 189 = .ok (.aload_n 0, 1) := by decide +kernel
theorem dX10_init_190 : decode cX10_init 190 = .ok (.bipush 6, 2) := by decide +kernel
theorem dX10_init_192 : decode cX10_init 192 = .ok (.newarray .int, 2) := by decide +kernel
theorem dX10_init_194 : decode cX10_init 194 = .ok (.putfield 81, 3) := by decide +kernel
theorem dX10_init_197 : decode cX10_init 197 = .ok (.aload_n 0, 1) := by decide +kernel
theorem dX10_init_198 : decode cX10_init 198 = .ok (.sipush 360, 3) := by decide +kernel
theorem dX10_init_201 : decode cX10_init 201 = .ok (.newarray .long, 2) := by decide +kernel
theorem dX10_init_203 : decode cX10_init 203 = .ok (.putfield 84, 3) := by decide +kernel
theorem dX10_init_206 : decode cX10_init 206 = .ok (.aload_n 0, 1) := by decide +kernel
theorem dX10_init_207 : decode cX10_init 207 = .ok (.bipush 92, 2) := by decide +kernel
theorem dX10_init_209 : decode cX10_init 209 = .ok (.newarray .int, 2) := by decide +kernel
theorem dX10_init_211 : decode cX10_init 211 = .ok (.putfield 88, 3) := by decide +kernel
theorem dX10_init_214 : decode cX10_init 214 = .ok (.aload_n 0, 1) := by decide +kernel
theorem dX10_init_215 : decode cX10_init 215 = .ok (.bipush 92, 2) := by decide +kernel
theorem dX10_init_217 : decode cX10_init 217 = .ok (.newarray .int, 2) := by decide +kernel
theorem dX10_init_219 : decode cX10_init 219 = .ok (.putfield 91, 3) := by decide +kernel
theorem dX10_init_222 : decode cX10_init 222 = .ok (.aload_n 0, 1) := by decide +kernel
theorem dX10_init_223 : decode cX10_init 223 = .ok (.iconst 3, 1) := by decide +kernel
theorem dX10_init_224 : decode cX10_init 224 = .ok (.newarray .int, 2) := by decide +kernel
theorem dX10_init_226 : decode cX10_init 226 = .ok (.putfield 94, 3) := by decide +kernel
theorem dX10_init_229 : decode cX10_init 229 = .ok (.aload_n 0, 1) := by decide +kernel
theorem dX10_init_230 : decode cX10_init 230 = .ok (.bipush 30, 2) := by decide +kernel
theorem dX10_init_232 : decode cX10_init 232 = .ok (.newarray .int, 2) := by decide +kernel
theorem dX10_init_234 : decode cX10_init 234 = .ok (.putfield 97, 3) := by decide +kernel
theorem dX10_init_237 : decode cX10_init 237 = .ok (.aload_n 0, 1) := by decide +kernel
theorem dX10_init_238 : decode cX10_init 238 = .ok (.bipush 30, 2) := by decide +kernel
theorem dX10_init_240 : decode cX10_init 240 = .ok (.newarray .int, 2) := by decide +kernel
theorem dX10_init_242 : decode cX10_init 242 = .ok (.putfield 100, 3) := by decide +kernel
theorem dX10_init_245 : decode cX10_init 245 = .ok (.iconst 0, 1) := by decide +kernel
theorem dX10_init_246 : decode cX10_init 246 = .ok (.istore_n 1, 1) := by decide +kernel
theorem dX10_init_247 : decode cX10_init 247 = .ok (.iload_n 1, 1) := by decide +kernel
theorem dX10_init_248 : decode cX10_init 248 = .ok (.bipush 6, 2) := by decide +kernel
theorem dX10_init_250 : decode cX10_init 250 = .ok (.if_icmp .ge 16, 3) := by decide +kernel
theorem dX10_init_253 : decode cX10_init 253 = .ok (.aload_n 0, 1) := by decide +kernel
theorem dX10_init_254 : decode cX10_init 254 = .ok (.getfield 78, 3) := by decide +kernel
theorem dX10_init_257 : decode cX10_init 257 = .ok (.iload_n 1, 1) := by decide +kernel
theorem dX10_init_258 : decode cX10_init 258 = .ok (.iconst (-1), 1) := by decide +kernel
theorem dX10_init_259 : decode cX10_init 259 = .ok (.iastore, 1) := by decide +kernel
theorem dX10_init_260 : decode cX10_init 260 = .ok (.iinc 1 1, 3) := by decide +kernel
theorem dX10_init_263 : decode cX10_init 263 = .ok (.goto (-16), 3) := by decide +kernel
theorem dX10_init_266 : decode cX10_init 266 = .ok (.return_, 1) := by decide +kernel
theorem dX10_within_0 : decode cX10_within 0 = .ok (.iload_n 0, 1) := by decide +kernel
theorem dX10_within_1 : decode cX10_within 1 = .ok (.iload_n 1, 1) := by decide +kernel
theorem dX10_within_2 : decode cX10_within 2 = .ok (.if_icmp .lt 12, 3) := by decide +kernel
theorem dX10_within_5 : decode cX10_within 5 = .ok (.iload_n 0, 1) := by decide +kernel
theorem dX10_within_6 : decode cX10_within 6 = .ok (.iload_n 2, 1) := by decide +kernel
theorem dX10_within_7 : decode cX10_within 7 = .ok (.if_icmp .gt 7, 3) := by decide +kernel
theorem dX10_within_10 : decode cX10_within 10 = .ok (.iconst 1, 1) := by decide +kernel
theorem dX10_within_11 : decode cX10_within 11 = .ok (.goto 4, 3) := by decide +kernel
theorem dX10_within_14 : decode cX10_within 14 = .ok (.iconst 0, 1) := by decide +kernel
theorem dX10_within_15 : decode cX10_within 15 = .ok (.ireturn, 1) := by decide +kernel
theorem dX10_isPlace_0 : decode cX10_isPlace 0 = .ok (.iload_n 0, 1) := by decide +kernel
theorem dX10_isPlace_1 : decode cX10_isPlace 1 = .ok (.iconst 0, 1) := by decide +kernel
theorem dX10_isPlace_2 : decode cX10_isPlace 2 = .ok (.bipush 29, 2) := by decide +kernel
theorem dX10_isPlace_4 : decode cX10_isPlace 4 = .ok (.invokestatic 103, 3) := by decide +kernel
theorem dX10_isPlace_7 : decode cX10_isPlace 7 = .ok (.ireturn, 1) := by decide +kernel
theorem dX10_isHouse_0 : decode cX10_isHouse 0 = .ok (.iload_n 1, 1) := by decide +kernel
theorem dX10_isHouse_1 : decode cX10_isHouse 1 = .ok (.iconst 0, 1) := by decide +kernel
theorem dX10_isHouse_2 : decode cX10_isHouse 2 = .ok (.aload_n 0, 1) := by decide +kernel
theorem dX10_isHouse_3 : decode cX10_isHouse 3 = .ok (.getfield 107, 3) := by decide +kernel
theorem dX10_isHouse_6 : decode cX10_isHouse 6 = .ok (.iconst 1, 1) := by decide +kernel
theorem dX10_isHouse_7 : decode cX10_isHouse 7 = .ok (.isub, 1) := by decide +kernel
theorem dX10_isHouse_8 : decode cX10_isHouse 8 = .ok (.invokestatic 103, 3) := by decide +kernel
theorem dX10_isHouse_11 : decode cX10_isHouse 11 = .ok (.ireturn, 1) := by decide +kernel
theorem dX10_isTime_0 : decode cX10_isTime 0 = .ok (.iload_n 0, 1) := by decide +kernel
theorem dX10_isTime_1 : decode cX10_isTime 1 = .ok (.iconst 0, 1) := by decide +kernel
theorem dX10_isTime_2 : decode cX10_isTime 2 = .ok (.bipush 48, 2) := by decide +kernel
theorem dX10_isTime_4 : decode cX10_isTime 4 = .ok (.invokestatic 103, 3) := by decide +kernel
theorem dX10_isTime_7 : decode cX10_isTime 7 = .ok (.ireturn, 1) := by decide +kernel
theorem dX10_isShelf_0 : decode cX10_isShelf 0 = .ok (.iload_n 0, 1) := by decide +kernel
theorem dX10_isShelf_1 : decode cX10_isShelf 1 = .ok (.iconst 0, 1) := by decide +kernel
theorem dX10_isShelf_2 : decode cX10_isShelf 2 = .ok (.iconst 5, 1) := by decide +kernel
theorem dX10_isShelf_3 : decode cX10_isShelf 3 = .ok (.invokestatic 103, 3) := by decide +kernel
theorem dX10_isShelf_6 : decode cX10_isShelf 6 = .ok (.ireturn, 1) := by decide +kernel
theorem dX10_newHouse_0 : decode cX10_newHouse 0 = .ok (.aload_n 0, 1) := by decide +kernel
theorem dX10_newHouse_1 : decode cX10_newHouse 1 = .ok (.getfield 21, 3) := by decide +kernel
theorem dX10_newHouse_4 : decode cX10_newHouse 4 = .ok (.aload_n 0, 1) := by decide +kernel
theorem dX10_newHouse_5 : decode cX10_newHouse 5 = .ok (.getfield 107, 3) := by decide +kernel
theorem dX10_newHouse_8 : decode cX10_newHouse 8 = .ok (.iload_n 1, 1) := by decide +kernel
theorem dX10_newHouse_9 : decode cX10_newHouse 9 = .ok (.iastore, 1) := by decide +kernel
theorem dX10_newHouse_10 : decode cX10_newHouse 10 = .ok (.aload_n 0, 1) := by decide +kernel
theorem dX10_newHouse_11 : decode cX10_newHouse 11 = .ok (.getfield 21, 3) := by decide +kernel
theorem dX10_newHouse_14 : decode cX10_newHouse 14 = .ok (.bipush 8, 2) := by decide +kernel
theorem dX10_newHouse_16 : decode cX10_newHouse 16 = .ok (.aload_n 0, 1) := by decide +kernel
theorem dX10_newHouse_17 : decode cX10_newHouse 17 = .ok (.getfield 107, 3) := by decide +kernel
theorem dX10_newHouse_20 : decode cX10_newHouse 20 = .ok (.iadd, 1) := by decide +kernel
theorem dX10_newHouse_21 : decode cX10_newHouse 21 = .ok (.iload_n 2, 1) := by decide +kernel
theorem dX10_newHouse_22 : decode cX10_newHouse 22 = .ok (.iastore, 1) := by decide +kernel
theorem dX10_newHouse_23 : decode cX10_newHouse 23 = .ok (.aload_n 0, 1) := by decide +kernel
theorem dX10_newHouse_24 : decode cX10_newHouse 24 = .ok (.getfield 21, 3) := by decide +kernel
theorem dX10_newHouse_27 : decode cX10_newHouse 27 = .ok (.bipush 16, 2) := by decide +kernel
theorem dX10_newHouse_29 : decode cX10_newHouse 29 = .ok (.aload_n 0, 1) := by decide +kernel
theorem dX10_newHouse_30 : decode cX10_newHouse 30 = .ok (.getfield 107, 3) := by decide +kernel
theorem dX10_newHouse_33 : decode cX10_newHouse 33 = .ok (.iadd, 1) := by decide +kernel
theorem dX10_newHouse_34 : decode cX10_newHouse 34 = .ok (.iload_n 3, 1) := by decide +kernel
theorem dX10_newHouse_35 : decode cX10_newHouse 35 = .ok (.iastore, 1) := by decide +kernel
theorem dX10_newHouse_36 : decode cX10_newHouse 36 = .ok (.aload_n 0, 1) := by decide +kernel
theorem dX10_newHouse_37 : decode cX10_newHouse 37 = .ok (.dup, 1) := by decide +kernel
theorem dX10_newHouse_38 : decode cX10_newHouse 38 = .ok (.getfield 107, 3) := by decide +kernel
theorem dX10_newHouse_41 : decode cX10_newHouse 41 = .ok (.dup_x1, 1) := by decide +kernel
theorem dX10_newHouse_42 : decode cX10_newHouse 42 = .ok (.iconst 1, 1) := by decide +kernel
theorem dX10_newHouse_43 : decode cX10_newHouse 43 = .ok (.iadd, 1) := by decide +kernel
theorem dX10_newHouse_44 : decode cX10_newHouse 44 = .ok (.putfield 107, 3) := by decide +kernel
theorem dX10_newHouse_47 : decode cX10_newHouse 47 = .ok (.ireturn, 1) := by decide +kernel
theorem dX10_house_0 : decode cX10_house 0 = .ok (.iload_n 1, 1) := by decide +kernel
theorem dX10_house_1 : decode cX10_house 1 = .ok (.invokestatic 111, 3) := by decide +kernel
theorem dX10_house_4 : decode cX10_house 4 = .ok (.ifCond .eq 13, 3) := by decide +kernel
theorem dX10_house_7 : decode cX10_house 7 = .ok (.iload_n 2, 1) := by decide +kernel
theorem dX10_house_8 : decode cX10_house 8 = .ok (.iconst 0, 1) := by decide +kernel
theorem dX10_house_9 : decode cX10_house 9 = .ok (.bipush 99, 2) := by decide +kernel
theorem dX10_house_11 : decode cX10_house 11 = .ok (.invokestatic 103, 3) := by decide +kernel
theorem dX10_house_14 : decode cX10_house 14 = .ok (.ifCond .ne 5, 3) := by decide +kernel
theorem dX10_house_17 : decode cX10_house 17 = .ok (.iconst (-1), 1) := by decide +kernel
theorem dX10_house_18 : decode cX10_house 18 = .ok (.ireturn, 1) := by decide +kernel
theorem dX10_house_19 : decode cX10_house 19 = .ok (.aload_n 0, 1) := by decide +kernel
theorem dX10_house_20 : decode cX10_house 20 = .ok (.getfield 107, 3) := by decide +kernel
theorem dX10_house_23 : decode cX10_house 23 = .ok (.bipush 8, 2) := by decide +kernel
theorem dX10_house_25 : decode cX10_house 25 = .ok (.if_icmp .ne 8, 3) := by decide +kernel
theorem dX10_house_28 : decode cX10_house 28 = .ok (.bipush (-3), 2) := by decide +kernel
theorem dX10_house_30 : decode cX10_house 30 = .ok (.goto 12, 3) := by decide +kernel
theorem dX10_house_33 : decode cX10_house 33 = .ok (.aload_n 0, 1) := by decide +kernel
theorem dX10_house_34 : decode cX10_house 34 = .ok (.iload_n 1, 1) := by decide +kernel
theorem dX10_house_35 : decode cX10_house 35 = .ok (.iload_n 2, 1) := by decide +kernel
theorem dX10_house_36 : decode cX10_house 36 = .ok (.sipush 4095, 3) := by decide +kernel
theorem dX10_house_39 : decode cX10_house 39 = .ok (.invokevirtual 115, 3) := by decide +kernel
theorem dX10_house_42 : decode cX10_house 42 = .ok (.ireturn, 1) := by decide +kernel
theorem dX10_houses_0 : decode cX10_houses 0 = .ok (.iload_n 1, 1) := by decide +kernel
theorem dX10_houses_1 : decode cX10_houses 1 = .ok (.invokestatic 119, 3) := by decide +kernel
theorem dX10_houses_4 : decode cX10_houses 4 = .ok (.ifCond .eq 13, 3) := by decide +kernel
theorem dX10_houses_7 : decode cX10_houses 7 = .ok (.iload_n 3, 1) := by decide +kernel
theorem dX10_houses_8 : decode cX10_houses 8 = .ok (.iconst 1, 1) := by decide +kernel
theorem dX10_houses_9 : decode cX10_houses 9 = .ok (.bipush 8, 2) := by decide +kernel
theorem dX10_houses_11 : decode cX10_houses 11 = .ok (.invokestatic 103, 3) := by decide +kernel
theorem dX10_houses_14 : decode cX10_houses 14 = .ok (.ifCond .ne 5, 3) := by decide +kernel
theorem dX10_houses_17 : decode cX10_houses 17 = .ok (.iconst (-1), 1) := by decide +kernel
theorem dX10_houses_18 : decode cX10_houses 18 = .ok (.ireturn, 1) := by decide +kernel
theorem dX10_houses_19 : decode cX10_houses 19 = .ok (.aload_n 0, 1) := by decide +kernel
theorem dX10_houses_20 : decode cX10_houses 20 = .ok (.getfield 78, 3) := by decide +kernel
theorem dX10_houses_23 : decode cX10_houses 23 = .ok (.iload_n 1, 1) := by decide +kernel
theorem dX10_houses_24 : decode cX10_houses 24 = .ok (.iaload, 1) := by decide +kernel
theorem dX10_houses_25 : decode cX10_houses 25 = .ok (.iconst (-1), 1) := by decide +kernel
theorem dX10_houses_26 : decode cX10_houses 26 = .ok (.if_icmp .ne 5, 3) := by decide +kernel
theorem dX10_houses_29 : decode cX10_houses 29 = .ok (.iconst 0, 1) := by decide +kernel
theorem dX10_houses_30 : decode cX10_houses 30 = .ok (.ireturn, 1) := by decide +kernel
theorem dX10_houses_31 : decode cX10_houses 31 = .ok (.aload_n 0, 1) := by decide +kernel
theorem dX10_houses_32 : decode cX10_houses 32 = .ok (.getfield 78, 3) := by decide +kernel
theorem dX10_houses_35 : decode cX10_houses 35 = .ok (.iload_n 1, 1) := by decide +kernel
theorem dX10_houses_36 : decode cX10_houses 36 = .ok (.iaload, 1) := by decide +kernel
theorem dX10_houses_37 : decode cX10_houses 37 = .ok (.iconst 1, 1) := by decide +kernel
theorem dX10_houses_38 : decode cX10_houses 38 = .ok (.if_icmp .eq 6, 3) := by decide +kernel
theorem dX10_houses_41 : decode cX10_houses 41 = .ok (.bipush (-12), 2) := by decide +kernel
theorem dX10_houses_43 : decode cX10_houses 43 = .ok (.ireturn, 1) := by decide +kernel
theorem dX10_houses_44 : decode cX10_houses 44 = .ok (.iconst 0, 1) := by decide +kernel
theorem dX10_houses_45 : decode cX10_houses 45 = .ok (.istore 4, 2) := by decide +kernel
theorem dX10_houses_47 : decode cX10_houses 47 = .ok (.iconst 0, 1) := by decide +kernel
theorem dX10_houses_48 : decode cX10_houses 48 = .ok (.istore 5, 2) := by decide +kernel
theorem dX10_houses_50 : decode cX10_houses 50 = .ok (.iload 5, 2) := by decide +kernel
theorem dX10_houses_52 : decode cX10_houses 52 = .ok (.iload_n 3, 1) := by decide +kernel
theorem dX10_houses_53 : decode cX10_houses 53 = .ok (.if_icmp .ge 148, 3) := by decide +kernel
theorem dX10_houses_56 : decode cX10_houses 56 = .ok (.iload_n 2, 1) := by decide +kernel
theorem dX10_houses_57 : decode cX10_houses 57 = .ok (.i2l, 1) := by decide +kernel
theorem dX10_houses_58 : decode cX10_houses 58 = .ok (.ldc2_w 122, 3) := by decide +kernel
theorem dX10_houses_61 : decode cX10_houses 61 = .ok (.iload 5, 2) := by decide +kernel
theorem dX10_houses_63 : decode cX10_houses 63 = .ok (.i2l, 1) := by decide +kernel
theorem dX10_houses_64 : decode cX10_houses 64 = .ok (.lmul, 1) := by decide +kernel
theorem dX10_houses_65 : decode cX10_houses 65 = .ok (.ladd, 1) := by decide +kernel
theorem dX10_houses_66 : decode cX10_houses 66 = .ok (.lstore 6, 2) := by decide +kernel
theorem dX10_houses_68 : decode cX10_houses 68 = .ok (.lload 6, 2) := by decide +kernel
theorem dX10_houses_70 : decode cX10_houses 70 = .ok (.lconst 0, 1) := by decide +kernel
theorem dX10_houses_71 : decode cX10_houses 71 = .ok (.lcmp, 1) := by decide +kernel
theorem dX10_houses_72 : decode cX10_houses 72 = .ok (.ifCond .lt 29, 3) := by decide +kernel
theorem dX10_houses_75 : decode cX10_houses 75 = .ok (.lload 6, 2) := by decide +kernel
theorem dX10_houses_77 : decode cX10_houses 77 = .ok (.ldc2_w 122, 3) := by decide +kernel
theorem dX10_houses_80 : decode cX10_houses 80 = .ok (.ladd, 1) := by decide +kernel
theorem dX10_houses_81 : decode cX10_houses 81 = .ok (.aload_n 0, 1) := by decide +kernel
theorem dX10_houses_82 : decode cX10_houses 82 = .ok (.getfield 81, 3) := by decide +kernel
theorem dX10_houses_85 : decode cX10_houses 85 = .ok (.iload_n 1, 1) := by decide +kernel
theorem dX10_houses_86 : decode cX10_houses 86 = .ok (.iaload, 1) := by decide +kernel
theorem dX10_houses_87 : decode cX10_houses 87 = .ok (.i2l, 1) := by decide +kernel
theorem dX10_houses_88 : decode cX10_houses 88 = .ok (.lcmp, 1) := by decide +kernel
theorem dX10_houses_89 : decode cX10_houses 89 = .ok (.ifCond .gt 12, 3) := by decide +kernel
theorem dX10_houses_92 : decode cX10_houses 92 = .ok (.aload_n 0, 1) := by decide +kernel
theorem dX10_houses_93 : decode cX10_houses 93 = .ok (.getfield 107, 3) := by decide +kernel
theorem dX10_houses_96 : decode cX10_houses 96 = .ok (.bipush 8, 2) := by decide +kernel
theorem dX10_houses_98 : decode cX10_houses 98 = .ok (.if_icmp .ne 6, 3) := by decide +kernel
theorem dX10_houses_101 : decode cX10_houses 101 = .ok (.iload 4, 2) := by decide +kernel
theorem dX10_houses_103 : decode cX10_houses 103 = .ok (.ireturn, 1) := by decide +kernel
theorem dX10_houses_104 : decode cX10_houses 104 = .ok (.lload 6, 2) := by decide +kernel
theorem dX10_houses_106 : decode cX10_houses 106 = .ok (.l2i, 1) := by decide +kernel
theorem dX10_houses_107 : decode cX10_houses 107 = .ok (.istore 8, 2) := by decide +kernel
theorem dX10_houses_109 : decode cX10_houses 109 = .ok (.aload_n 0, 1) := by decide +kernel
theorem dX10_houses_110 : decode cX10_houses 110 = .ok (.iload_n 1, 1) := by decide +kernel
theorem dX10_houses_111 : decode cX10_houses 111 = .ok (.iload 8, 2) := by decide +kernel
theorem dX10_houses_113 : decode cX10_houses 113 = .ok (.invokevirtual 124, 3) := by decide +kernel
theorem dX10_houses_116 : decode cX10_houses 116 = .ok (.invokestatic 111, 3) := by decide +kernel
theorem dX10_houses_119 : decode cX10_houses 119 = .ok (.ifCond .eq 40, 3) := by decide +kernel
theorem dX10_houses_122 : decode cX10_houses 122 = .ok (.aload_n 0, 1) := by decide +kernel
theorem dX10_houses_123 : decode cX10_houses 123 = .ok (.iload_n 1, 1) := by decide +kernel
theorem dX10_houses_124 : decode cX10_houses 124 = .ok (.iload 8, 2) := by decide +kernel
theorem dX10_houses_126 : decode cX10_houses 126 = .ok (.iconst 1, 1) := by decide +kernel
theorem dX10_houses_127 : decode cX10_houses 127 = .ok (.iadd, 1) := by decide +kernel
theorem dX10_houses_128 : decode cX10_houses 128 = .ok (.invokevirtual 124, 3) := by decide +kernel
theorem dX10_houses_131 : decode cX10_houses 131 = .ok (.iconst 0, 1) := by decide +kernel
theorem dX10_houses_132 : decode cX10_houses 132 = .ok (.bipush 99, 2) := by decide +kernel
theorem dX10_houses_134 : decode cX10_houses 134 = .ok (.invokestatic 103, 3) := by decide +kernel
theorem dX10_houses_137 : decode cX10_houses 137 = .ok (.ifCond .eq 22, 3) := by decide +kernel
theorem dX10_houses_140 : decode cX10_houses 140 = .ok (.aload_n 0, 1) := by decide +kernel
theorem dX10_houses_141 : decode cX10_houses 141 = .ok (.iload_n 1, 1) := by decide +kernel
theorem dX10_houses_142 : decode cX10_houses 142 = .ok (.iload 8, 2) := by decide +kernel
theorem dX10_houses_144 : decode cX10_houses 144 = .ok (.iconst 2, 1) := by decide +kernel
theorem dX10_houses_145 : decode cX10_houses 145 = .ok (.iadd, 1) := by decide +kernel
theorem dX10_houses_146 : decode cX10_houses 146 = .ok (.invokevirtual 124, 3) := by decide +kernel
theorem dX10_houses_149 : decode cX10_houses 149 = .ok (.iconst 0, 1) := by decide +kernel
theorem dX10_houses_150 : decode cX10_houses 150 = .ok (.sipush 4095, 3) := by decide +kernel
theorem dX10_houses_153 : decode cX10_houses 153 = .ok (.invokestatic 103, 3) := by decide +kernel
theorem dX10_houses_156 : decode cX10_houses 156 = .ok (.ifCond .ne 6, 3) := by decide +kernel
theorem dX10_houses_159 : decode cX10_houses 159 = .ok (.iload 4, 2) := by decide +kernel
theorem dX10_houses_161 : decode cX10_houses 161 = .ok (.ireturn, 1) := by decide +kernel
theorem dX10_houses_162 : decode cX10_houses 162 = .ok (.aload_n 0, 1) := by decide +kernel
theorem dX10_houses_163 : decode cX10_houses 163 = .ok (.aload_n 0, 1) := by decide +kernel
theorem dX10_houses_164 : decode cX10_houses 164 = .ok (.iload_n 1, 1) := by decide +kernel
theorem dX10_houses_165 : decode cX10_houses 165 = .ok (.iload 8, 2) := by decide +kernel
theorem dX10_houses_167 : decode cX10_houses 167 = .ok (.invokevirtual 124, 3) := by decide +kernel
theorem dX10_houses_170 : decode cX10_houses 170 = .ok (.aload_n 0, 1) := by decide +kernel
theorem dX10_houses_171 : decode cX10_houses 171 = .ok (.iload_n 1, 1) := by decide +kernel
theorem dX10_houses_172 : decode cX10_houses 172 = .ok (.iload 8, 2) := by decide +kernel
theorem dX10_houses_174 : decode cX10_houses 174 = .ok (.iconst 1, 1) := by decide +kernel
theorem dX10_houses_175 : decode cX10_houses 175 = .ok (.iadd, 1) := by decide +kernel
theorem dX10_houses_176 : decode cX10_houses 176 = .ok (.invokevirtual 124, 3) := by decide +kernel
theorem dX10_houses_179 : decode cX10_houses 179 = .ok (.aload_n 0, 1) := by decide +kernel
theorem dX10_houses_180 : decode cX10_houses 180 = .ok (.iload_n 1, 1) := by decide +kernel
theorem dX10_houses_181 : decode cX10_houses 181 = .ok (.iload 8, 2) := by decide +kernel
theorem dX10_houses_183 : decode cX10_houses 183 = .ok (.iconst 2, 1) := by decide +kernel
theorem dX10_houses_184 : decode cX10_houses 184 = .ok (.iadd, 1) := by decide +kernel
theorem dX10_houses_185 : decode cX10_houses 185 = .ok (.invokevirtual 124, 3) := by decide +kernel
theorem dX10_houses_188 : decode cX10_houses 188 = .ok (.invokevirtual 115, 3) := by decide +kernel
theorem dX10_houses_191 : decode cX10_houses 191 = .ok (.pop, 1) := by decide +kernel
theorem dX10_houses_192 : decode cX10_houses 192 = .ok (.iinc 4 1, 3) := by decide +kernel
theorem dX10_houses_195 : decode cX10_houses 195 = .ok (.iinc 5 1, 3) := by decide +kernel
theorem dX10_houses_198 : decode cX10_houses 198 = .ok (.goto (-148), 3) := by decide +kernel
theorem dX10_houses_201 : decode cX10_houses 201 = .ok (.iload 4, 2) := by decide +kernel
theorem dX10_houses_203 : decode cX10_houses 203 = .ok (.ireturn, 1) := by decide +kernel
theorem dX10_toldAt_0 : decode cX10_toldAt 0 = .ok (.aload_n 0, 1) := by decide +kernel
theorem dX10_toldAt_1 : decode cX10_toldAt 1 = .ok (.getfield 84, 3) := by decide +kernel
theorem dX10_toldAt_4 : decode cX10_toldAt 4 = .ok (.bipush 60, 2) := by decide +kernel
theorem dX10_toldAt_6 : decode cX10_toldAt 6 = .ok (.iload_n 1, 1) := by decide +kernel
theorem dX10_toldAt_7 : decode cX10_toldAt 7 = .ok (.imul, 1) := by decide +kernel
theorem dX10_toldAt_8 : decode cX10_toldAt 8 = .ok (.iload_n 2, 1) := by decide +kernel
theorem dX10_toldAt_9 : decode cX10_toldAt 9 = .ok (.iadd, 1) := by decide +kernel
theorem dX10_toldAt_10 : decode cX10_toldAt 10 = .ok (.laload, 1) := by decide +kernel
theorem dX10_toldAt_11 : decode cX10_toldAt 11 = .ok (.l2i, 1) := by decide +kernel
theorem dX10_toldAt_12 : decode cX10_toldAt 12 = .ok (.ireturn, 1) := by decide +kernel
theorem dX10_isOf_0 : decode cX10_isOf 0 = .ok (.iload_n 2, 1) := by decide +kernel
theorem dX10_isOf_1 : decode cX10_isOf 1 = .ok (.iconst 0, 1) := by decide +kernel
theorem dX10_isOf_2 : decode cX10_isOf 2 = .ok (.iconst 2, 1) := by decide +kernel
theorem dX10_isOf_3 : decode cX10_isOf 3 = .ok (.invokestatic 103, 3) := by decide +kernel
theorem dX10_isOf_6 : decode cX10_isOf 6 = .ok (.ifCond .eq 10, 3) := by decide +kernel
theorem dX10_isOf_9 : decode cX10_isOf 9 = .ok (.iload_n 1, 1) := by decide +kernel
theorem dX10_isOf_10 : decode cX10_isOf 10 = .ok (.invokestatic 111, 3) := by decide +kernel
theorem dX10_isOf_13 : decode cX10_isOf 13 = .ok (.goto 40, 3) := by decide +kernel
theorem dX10_isOf_16 : decode cX10_isOf 16 = .ok (.iload_n 2, 1) := by decide +kernel
theorem dX10_isOf_17 : decode cX10_isOf 17 = .ok (.iconst 3, 1) := by decide +kernel
theorem dX10_isOf_18 : decode cX10_isOf 18 = .ok (.iconst 5, 1) := by decide +kernel
theorem dX10_isOf_19 : decode cX10_isOf 19 = .ok (.invokestatic 103, 3) := by decide +kernel
theorem dX10_isOf_22 : decode cX10_isOf 22 = .ok (.ifCond .eq 11, 3) := by decide +kernel
theorem dX10_isOf_25 : decode cX10_isOf 25 = .ok (.aload_n 0, 1) := by decide +kernel
theorem dX10_isOf_26 : decode cX10_isOf 26 = .ok (.iload_n 1, 1) := by decide +kernel
theorem dX10_isOf_27 : decode cX10_isOf 27 = .ok (.invokevirtual 128, 3) := by decide +kernel
theorem dX10_isOf_30 : decode cX10_isOf 30 = .ok (.goto 23, 3) := by decide +kernel
theorem dX10_isOf_33 : decode cX10_isOf 33 = .ok (.iload_n 2, 1) := by decide +kernel
theorem dX10_isOf_34 : decode cX10_isOf 34 = .ok (.bipush 6, 2) := by decide +kernel
theorem dX10_isOf_36 : decode cX10_isOf 36 = .ok (.bipush 7, 2) := by decide +kernel
theorem dX10_isOf_38 : decode cX10_isOf 38 = .ok (.invokestatic 103, 3) := by decide +kernel
theorem dX10_isOf_41 : decode cX10_isOf 41 = .ok (.ifCond .eq 11, 3) := by decide +kernel
theorem dX10_isOf_44 : decode cX10_isOf 44 = .ok (.iload_n 1, 1) := by decide +kernel
theorem dX10_isOf_45 : decode cX10_isOf 45 = .ok (.ifCond .ne 7, 3) := by decide +kernel
theorem dX10_isOf_48 : decode cX10_isOf 48 = .ok (.iconst 1, 1) := by decide +kernel
theorem dX10_isOf_49 : decode cX10_isOf 49 = .ok (.goto 4, 3) := by decide +kernel
theorem dX10_isOf_52 : decode cX10_isOf 52 = .ok (.iconst 0, 1) := by decide +kernel
theorem dX10_isOf_53 : decode cX10_isOf 53 = .ok (.ireturn, 1) := by decide +kernel
theorem dX10_isFit_0 : decode cX10_isFit 0 = .ok (.iload_n 0, 1) := by decide +kernel
theorem dX10_isFit_1 : decode cX10_isFit 1 = .ok (.tableswitch 92 0 7 #[47, 54, 62, 70, 75, 83, 92, 62], 47) := by decide +kernel
theorem dX10_isFit_48 : decode cX10_isFit 48 = .ok (.iload_n 1, 1) := by decide +kernel
theorem dX10_isFit_49 : decode cX10_isFit 49 = .ok (.iconst 0, 1) := by decide +kernel
theorem dX10_isFit_50 : decode cX10_isFit 50 = .ok (.iconst 4, 1) := by decide +kernel
theorem dX10_isFit_51 : decode cX10_isFit 51 = .ok (.invokestatic 103, 3) := by decide +kernel
theorem dX10_isFit_54 : decode cX10_isFit 54 = .ok (.ireturn, 1) := by decide +kernel
theorem dX10_isFit_55 : decode cX10_isFit 55 = .ok (.iload_n 1, 1) := by decide +kernel
theorem dX10_isFit_56 : decode cX10_isFit 56 = .ok (.iconst 0, 1) := by decide +kernel
theorem dX10_isFit_57 : decode cX10_isFit 57 = .ok (.bipush 9, 2) := by decide +kernel
theorem dX10_isFit_59 : decode cX10_isFit 59 = .ok (.invokestatic 103, 3) := by decide +kernel
theorem dX10_isFit_62 : decode cX10_isFit 62 = .ok (.ireturn, 1) := by decide +kernel
theorem dX10_isFit_63 : decode cX10_isFit 63 = .ok (.iload_n 1, 1) := by decide +kernel
theorem dX10_isFit_64 : decode cX10_isFit 64 = .ok (.iconst 0, 1) := by decide +kernel
theorem dX10_isFit_65 : decode cX10_isFit 65 = .ok (.bipush 12, 2) := by decide +kernel
theorem dX10_isFit_67 : decode cX10_isFit 67 = .ok (.invokestatic 103, 3) := by decide +kernel
theorem dX10_isFit_70 : decode cX10_isFit 70 = .ok (.ireturn, 1) := by decide +kernel
theorem dX10_isFit_71 : decode cX10_isFit 71 = .ok (.iload_n 1, 1) := by decide +kernel
theorem dX10_isFit_72 : decode cX10_isFit 72 = .ok (.invokestatic 111, 3) := by decide +kernel
theorem dX10_isFit_75 : decode cX10_isFit 75 = .ok (.ireturn, 1) := by decide +kernel
theorem dX10_isFit_76 : decode cX10_isFit 76 = .ok (.iload_n 1, 1) := by decide +kernel
theorem dX10_isFit_77 : decode cX10_isFit 77 = .ok (.iconst 0, 1) := by decide +kernel
theorem dX10_isFit_78 : decode cX10_isFit 78 = .ok (.bipush 99, 2) := by decide +kernel
theorem dX10_isFit_80 : decode cX10_isFit 80 = .ok (.invokestatic 103, 3) := by decide +kernel
theorem dX10_isFit_83 : decode cX10_isFit 83 = .ok (.ireturn, 1) := by decide +kernel
theorem dX10_isFit_84 : decode cX10_isFit 84 = .ok (.iload_n 1, 1) := by decide +kernel
theorem dX10_isFit_85 : decode cX10_isFit 85 = .ok (.iconst 0, 1) := by decide +kernel
theorem dX10_isFit_86 : decode cX10_isFit 86 = .ok (.sipush 4095, 3) := by decide +kernel
theorem dX10_isFit_89 : decode cX10_isFit 89 = .ok (.invokestatic 103, 3) := by decide +kernel
theorem dX10_isFit_92 : decode cX10_isFit 92 = .ok (.ireturn, 1) := by decide +kernel
theorem dX10_isFit_93 : decode cX10_isFit 93 = .ok (.iload_n 1, 1) := by decide +kernel
theorem dX10_isFit_94 : decode cX10_isFit 94 = .ok (.iconst 0, 1) := by decide +kernel
theorem dX10_isFit_95 : decode cX10_isFit 95 = .ok (.bipush 11, 2) := by decide +kernel
theorem dX10_isFit_97 : decode cX10_isFit 97 = .ok (.invokestatic 103, 3) := by decide +kernel
theorem dX10_isFit_100 : decode cX10_isFit 100 = .ok (.ireturn, 1) := by decide +kernel
theorem dX10_get_0 : decode cX10_get 0 = .ok (.iload_n 2, 1) := by decide +kernel
theorem dX10_get_1 : decode cX10_get 1 = .ok (.tableswitch 74 0 5 #[39, 46, 53, 60, 60, 60], 39) := by decide +kernel
theorem dX10_get_40 : decode cX10_get 40 = .ok (.aload_n 0, 1) := by decide +kernel
theorem dX10_get_41 : decode cX10_get 41 = .ok (.getfield 9, 3) := by decide +kernel
theorem dX10_get_44 : decode cX10_get 44 = .ok (.iload_n 1, 1) := by decide +kernel
theorem dX10_get_45 : decode cX10_get 45 = .ok (.iaload, 1) := by decide +kernel
theorem dX10_get_46 : decode cX10_get 46 = .ok (.ireturn, 1) := by decide +kernel
theorem dX10_get_47 : decode cX10_get 47 = .ok (.aload_n 0, 1) := by decide +kernel
theorem dX10_get_48 : decode cX10_get 48 = .ok (.getfield 15, 3) := by decide +kernel
theorem dX10_get_51 : decode cX10_get 51 = .ok (.iload_n 1, 1) := by decide +kernel
theorem dX10_get_52 : decode cX10_get 52 = .ok (.iaload, 1) := by decide +kernel
theorem dX10_get_53 : decode cX10_get 53 = .ok (.ireturn, 1) := by decide +kernel
theorem dX10_get_54 : decode cX10_get 54 = .ok (.aload_n 0, 1) := by decide +kernel
theorem dX10_get_55 : decode cX10_get 55 = .ok (.getfield 18, 3) := by decide +kernel
theorem dX10_get_58 : decode cX10_get 58 = .ok (.iload_n 1, 1) := by decide +kernel
theorem dX10_get_59 : decode cX10_get 59 = .ok (.iaload, 1) := by decide +kernel
theorem dX10_get_60 : decode cX10_get 60 = .ok (.ireturn, 1) := by decide +kernel
theorem dX10_get_61 : decode cX10_get 61 = .ok (.aload_n 0, 1) := by decide +kernel
theorem dX10_get_62 : decode cX10_get 62 = .ok (.getfield 21, 3) := by decide +kernel
theorem dX10_get_65 : decode cX10_get 65 = .ok (.bipush 8, 2) := by decide +kernel
theorem dX10_get_67 : decode cX10_get 67 = .ok (.iload_n 2, 1) := by decide +kernel
theorem dX10_get_68 : decode cX10_get 68 = .ok (.iconst 3, 1) := by decide +kernel
theorem dX10_get_69 : decode cX10_get 69 = .ok (.isub, 1) := by decide +kernel
theorem dX10_get_70 : decode cX10_get 70 = .ok (.imul, 1) := by decide +kernel
theorem dX10_get_71 : decode cX10_get 71 = .ok (.iload_n 1, 1) := by decide +kernel
theorem dX10_get_72 : decode cX10_get 72 = .ok (.iadd, 1) := by decide +kernel
theorem dX10_get_73 : decode cX10_get 73 = .ok (.iaload, 1) := by decide +kernel
theorem dX10_get_74 : decode cX10_get 74 = .ok (.ireturn, 1) := by decide +kernel
theorem dX10_get_75 : decode cX10_get 75 = .ok (.aload_n 0, 1) := by decide +kernel
theorem dX10_get_76 : decode cX10_get 76 = .ok (.getfield 24, 3) := by decide +kernel
theorem dX10_get_79 : decode cX10_get 79 = .ok (.iload_n 2, 1) := by decide +kernel
theorem dX10_get_80 : decode cX10_get 80 = .ok (.bipush 6, 2) := by decide +kernel
theorem dX10_get_82 : decode cX10_get 82 = .ok (.isub, 1) := by decide +kernel
theorem dX10_get_83 : decode cX10_get 83 = .ok (.iaload, 1) := by decide +kernel
theorem dX10_get_84 : decode cX10_get 84 = .ok (.ireturn, 1) := by decide +kernel
theorem dX10_becomes_0 : decode cX10_becomes 0 = .ok (.iload_n 2, 1) := by decide +kernel
theorem dX10_becomes_1 : decode cX10_becomes 1 = .ok (.tableswitch 78 0 5 #[39, 47, 55, 63, 63, 63], 39) := by decide +kernel
theorem dX10_becomes_40 : decode cX10_becomes 40 = .ok (.aload_n 0, 1) := by decide +kernel
theorem dX10_becomes_41 : decode cX10_becomes 41 = .ok (.getfield 9, 3) := by decide +kernel
theorem dX10_becomes_44 : decode cX10_becomes 44 = .ok (.iload_n 1, 1) := by decide +kernel
theorem dX10_becomes_45 : decode cX10_becomes 45 = .ok (.iload_n 3, 1) := by decide +kernel
theorem dX10_becomes_46 : decode cX10_becomes 46 = .ok (.iastore, 1) := by decide +kernel
theorem dX10_becomes_47 : decode cX10_becomes 47 = .ok (.return_, 1) := by decide +kernel
theorem dX10_becomes_48 : decode cX10_becomes 48 = .ok (.aload_n 0, 1) := by decide +kernel
theorem dX10_becomes_49 : decode cX10_becomes 49 = .ok (.getfield 15, 3) := by decide +kernel
theorem dX10_becomes_52 : decode cX10_becomes 52 = .ok (.iload_n 1, 1) := by decide +kernel
theorem dX10_becomes_53 : decode cX10_becomes 53 = .ok (.iload_n 3, 1) := by decide +kernel
theorem dX10_becomes_54 : decode cX10_becomes 54 = .ok (.iastore, 1) := by decide +kernel
theorem dX10_becomes_55 : decode cX10_becomes 55 = .ok (.return_, 1) := by decide +kernel
theorem dX10_becomes_56 : decode cX10_becomes 56 = .ok (.aload_n 0, 1) := by decide +kernel
theorem dX10_becomes_57 : decode cX10_becomes 57 = .ok (.getfield 18, 3) := by decide +kernel
theorem dX10_becomes_60 : decode cX10_becomes 60 = .ok (.iload_n 1, 1) := by decide +kernel
theorem dX10_becomes_61 : decode cX10_becomes 61 = .ok (.iload_n 3, 1) := by decide +kernel
theorem dX10_becomes_62 : decode cX10_becomes 62 = .ok (.iastore, 1) := by decide +kernel
theorem dX10_becomes_63 : decode cX10_becomes 63 = .ok (.return_, 1) := by decide +kernel
theorem dX10_becomes_64 : decode cX10_becomes 64 = .ok (.aload_n 0, 1) := by decide +kernel
theorem dX10_becomes_65 : decode cX10_becomes 65 = .ok (.getfield 21, 3) := by decide +kernel
theorem dX10_becomes_68 : decode cX10_becomes 68 = .ok (.bipush 8, 2) := by decide +kernel
theorem dX10_becomes_70 : decode cX10_becomes 70 = .ok (.iload_n 2, 1) := by decide +kernel
theorem dX10_becomes_71 : decode cX10_becomes 71 = .ok (.iconst 3, 1) := by decide +kernel
theorem dX10_becomes_72 : decode cX10_becomes 72 = .ok (.isub, 1) := by decide +kernel
theorem dX10_becomes_73 : decode cX10_becomes 73 = .ok (.imul, 1) := by decide +kernel
theorem dX10_becomes_74 : decode cX10_becomes 74 = .ok (.iload_n 1, 1) := by decide +kernel
theorem dX10_becomes_75 : decode cX10_becomes 75 = .ok (.iadd, 1) := by decide +kernel
theorem dX10_becomes_76 : decode cX10_becomes 76 = .ok (.iload_n 3, 1) := by decide +kernel
theorem dX10_becomes_77 : decode cX10_becomes 77 = .ok (.iastore, 1) := by decide +kernel
theorem dX10_becomes_78 : decode cX10_becomes 78 = .ok (.return_, 1) := by decide +kernel
theorem dX10_becomes_79 : decode cX10_becomes 79 = .ok (.aload_n 0, 1) := by decide +kernel
theorem dX10_becomes_80 : decode cX10_becomes 80 = .ok (.getfield 24, 3) := by decide +kernel
theorem dX10_becomes_83 : decode cX10_becomes 83 = .ok (.iload_n 2, 1) := by decide +kernel
theorem dX10_becomes_84 : decode cX10_becomes 84 = .ok (.bipush 6, 2) := by decide +kernel
theorem dX10_becomes_86 : decode cX10_becomes 86 = .ok (.isub, 1) := by decide +kernel
theorem dX10_becomes_87 : decode cX10_becomes 87 = .ok (.iload_n 3, 1) := by decide +kernel
theorem dX10_becomes_88 : decode cX10_becomes 88 = .ok (.iastore, 1) := by decide +kernel
theorem dX10_becomes_89 : decode cX10_becomes 89 = .ok (.return_, 1) := by decide +kernel
theorem dX10_mend_0 : decode cX10_mend 0 = .ok (.aload_n 0, 1) := by decide +kernel
theorem dX10_mend_1 : decode cX10_mend 1 = .ok (.iload_n 1, 1) := by decide +kernel
theorem dX10_mend_2 : decode cX10_mend 2 = .ok (.iload_n 2, 1) := by decide +kernel
theorem dX10_mend_3 : decode cX10_mend 3 = .ok (.invokevirtual 131, 3) := by decide +kernel
theorem dX10_mend_6 : decode cX10_mend 6 = .ok (.ifCond .eq 11, 3) := by decide +kernel
theorem dX10_mend_9 : decode cX10_mend 9 = .ok (.iload_n 2, 1) := by decide +kernel
theorem dX10_mend_10 : decode cX10_mend 10 = .ok (.iload_n 3, 1) := by decide +kernel
theorem dX10_mend_11 : decode cX10_mend 11 = .ok (.invokestatic 135, 3) := by decide +kernel
theorem dX10_mend_14 : decode cX10_mend 14 = .ok (.ifCond .ne 5, 3) := by decide +kernel
theorem dX10_mend_17 : decode cX10_mend 17 = .ok (.iconst (-1), 1) := by decide +kernel
theorem dX10_mend_18 : decode cX10_mend 18 = .ok (.ireturn, 1) := by decide +kernel
theorem dX10_mend_19 : decode cX10_mend 19 = .ok (.aload_n 0, 1) := by decide +kernel
theorem dX10_mend_20 : decode cX10_mend 20 = .ok (.iload_n 1, 1) := by decide +kernel
theorem dX10_mend_21 : decode cX10_mend 21 = .ok (.iload_n 2, 1) := by decide +kernel
theorem dX10_mend_22 : decode cX10_mend 22 = .ok (.invokevirtual 138, 3) := by decide +kernel
theorem dX10_mend_25 : decode cX10_mend 25 = .ok (.istore 4, 2) := by decide +kernel
theorem dX10_mend_27 : decode cX10_mend 27 = .ok (.iload 4, 2) := by decide +kernel
theorem dX10_mend_29 : decode cX10_mend 29 = .ok (.iload_n 3, 1) := by decide +kernel
theorem dX10_mend_30 : decode cX10_mend 30 = .ok (.if_icmp .ne 6, 3) := by decide +kernel
theorem dX10_mend_33 : decode cX10_mend 33 = .ok (.iload 4, 2) := by decide +kernel
theorem dX10_mend_35 : decode cX10_mend 35 = .ok (.ireturn, 1) := by decide +kernel
theorem dX10_mend_36 : decode cX10_mend 36 = .ok (.aload_n 0, 1) := by decide +kernel
theorem dX10_mend_37 : decode cX10_mend 37 = .ok (.iload_n 1, 1) := by decide +kernel
theorem dX10_mend_38 : decode cX10_mend 38 = .ok (.iload_n 2, 1) := by decide +kernel
theorem dX10_mend_39 : decode cX10_mend 39 = .ok (.iload_n 3, 1) := by decide +kernel
theorem dX10_mend_40 : decode cX10_mend 40 = .ok (.invokevirtual 141, 3) := by decide +kernel
theorem dX10_mend_43 : decode cX10_mend 43 = .ok (.aload_n 0, 1) := by decide +kernel
theorem dX10_mend_44 : decode cX10_mend 44 = .ok (.getfield 145, 3) := by decide +kernel
theorem dX10_mend_47 : decode cX10_mend 47 = .ok (.bipush 40, 2) := by decide +kernel
theorem dX10_mend_49 : decode cX10_mend 49 = .ok (.if_icmp .ne 46, 3) := by decide +kernel
theorem dX10_mend_52 : decode cX10_mend 52 = .ok (.iconst 0, 1) := by decide +kernel
theorem dX10_mend_53 : decode cX10_mend 53 = .ok (.istore 5, 2) := by decide +kernel
theorem dX10_mend_55 : decode cX10_mend 55 = .ok (.iload 5, 2) := by decide +kernel
theorem dX10_mend_57 : decode cX10_mend 57 = .ok (.sipush 156, 3) := by decide +kernel
theorem dX10_mend_60 : decode cX10_mend 60 = .ok (.if_icmp .ge 25, 3) := by decide +kernel
theorem dX10_mend_63 : decode cX10_mend 63 = .ok (.aload_n 0, 1) := by decide +kernel
theorem dX10_mend_64 : decode cX10_mend 64 = .ok (.getfield 69, 3) := by decide +kernel
theorem dX10_mend_67 : decode cX10_mend 67 = .ok (.iload 5, 2) := by decide +kernel
theorem dX10_mend_69 : decode cX10_mend 69 = .ok (.aload_n 0, 1) := by decide +kernel
theorem dX10_mend_70 : decode cX10_mend 70 = .ok (.getfield 69, 3) := by decide +kernel
theorem dX10_mend_73 : decode cX10_mend 73 = .ok (.iload 5, 2) := by decide +kernel
theorem dX10_mend_75 : decode cX10_mend 75 = .ok (.iconst 4, 1) := by decide +kernel
theorem dX10_mend_76 : decode cX10_mend 76 = .ok (.iadd, 1) := by decide +kernel
theorem dX10_mend_77 : decode cX10_mend 77 = .ok (.iaload, 1) := by decide +kernel
theorem dX10_mend_78 : decode cX10_mend 78 = .ok (.iastore, 1) := by decide +kernel
theorem dX10_mend_79 : decode cX10_mend 79 = .ok (.iinc 5 1, 3) := by decide +kernel
theorem dX10_mend_82 : decode cX10_mend 82 = .ok (.goto (-27), 3) := by decide +kernel
theorem dX10_mend_85 : decode cX10_mend 85 = .ok (.aload_n 0, 1) := by decide +kernel
theorem dX10_mend_86 : decode cX10_mend 86 = .ok (.dup, 1) := by decide +kernel
theorem dX10_mend_87 : decode cX10_mend 87 = .ok (.getfield 145, 3) := by decide +kernel
theorem dX10_mend_90 : decode cX10_mend 90 = .ok (.iconst 1, 1) := by decide +kernel
theorem dX10_mend_91 : decode cX10_mend 91 = .ok (.isub, 1) := by decide +kernel
theorem dX10_mend_92 : decode cX10_mend 92 = .ok (.putfield 145, 3) := by decide +kernel
theorem dX10_mend_95 : decode cX10_mend 95 = .ok (.aload_n 0, 1) := by decide +kernel
theorem dX10_mend_96 : decode cX10_mend 96 = .ok (.getfield 69, 3) := by decide +kernel
theorem dX10_mend_99 : decode cX10_mend 99 = .ok (.iconst 4, 1) := by decide +kernel
theorem dX10_mend_100 : decode cX10_mend 100 = .ok (.aload_n 0, 1) := by decide +kernel
theorem dX10_mend_101 : decode cX10_mend 101 = .ok (.getfield 145, 3) := by decide +kernel
theorem dX10_mend_104 : decode cX10_mend 104 = .ok (.imul, 1) := by decide +kernel
theorem dX10_mend_105 : decode cX10_mend 105 = .ok (.iload_n 1, 1) := by decide +kernel
theorem dX10_mend_106 : decode cX10_mend 106 = .ok (.iastore, 1) := by decide +kernel
theorem dX10_mend_107 : decode cX10_mend 107 = .ok (.aload_n 0, 1) := by decide +kernel
theorem dX10_mend_108 : decode cX10_mend 108 = .ok (.getfield 69, 3) := by decide +kernel
theorem dX10_mend_111 : decode cX10_mend 111 = .ok (.iconst 4, 1) := by decide +kernel
theorem dX10_mend_112 : decode cX10_mend 112 = .ok (.aload_n 0, 1) := by decide +kernel
theorem dX10_mend_113 : decode cX10_mend 113 = .ok (.getfield 145, 3) := by decide +kernel
theorem dX10_mend_116 : decode cX10_mend 116 = .ok (.imul, 1) := by decide +kernel
theorem dX10_mend_117 : decode cX10_mend 117 = .ok (.iconst 1, 1) := by decide +kernel
theorem dX10_mend_118 : decode cX10_mend 118 = .ok (.iadd, 1) := by decide +kernel
theorem dX10_mend_119 : decode cX10_mend 119 = .ok (.iload_n 2, 1) := by decide +kernel
theorem dX10_mend_120 : decode cX10_mend 120 = .ok (.iastore, 1) := by decide +kernel
theorem dX10_mend_121 : decode cX10_mend 121 = .ok (.aload_n 0, 1) := by decide +kernel
theorem dX10_mend_122 : decode cX10_mend 122 = .ok (.getfield 69, 3) := by decide +kernel
theorem dX10_mend_125 : decode cX10_mend 125 = .ok (.iconst 4, 1) := by decide +kernel
theorem dX10_mend_126 : decode cX10_mend 126 = .ok (.aload_n 0, 1) := by decide +kernel
theorem dX10_mend_127 : decode cX10_mend 127 = .ok (.getfield 145, 3) := by decide +kernel
theorem dX10_mend_130 : decode cX10_mend 130 = .ok (.imul, 1) := by decide +kernel
theorem dX10_mend_131 : decode cX10_mend 131 = .ok (.iconst 2, 1) := by decide +kernel
theorem dX10_mend_132 : decode cX10_mend 132 = .ok (.iadd, 1) := by decide +kernel
theorem dX10_mend_133 : decode cX10_mend 133 = .ok (.iload 4, 2) := by decide +kernel
theorem dX10_mend_135 : decode cX10_mend 135 = .ok (.iastore, 1) := by decide +kernel
theorem dX10_mend_136 : decode cX10_mend 136 = .ok (.aload_n 0, 1) := by decide +kernel
theorem dX10_mend_137 : decode cX10_mend 137 = .ok (.getfield 69, 3) := by decide +kernel
theorem dX10_mend_140 : decode cX10_mend 140 = .ok (.iconst 4, 1) := by decide +kernel
theorem dX10_mend_141 : decode cX10_mend 141 = .ok (.aload_n 0, 1) := by decide +kernel
theorem dX10_mend_142 : decode cX10_mend 142 = .ok (.getfield 145, 3) := by decide +kernel
theorem dX10_mend_145 : decode cX10_mend 145 = .ok (.imul, 1) := by decide +kernel
theorem dX10_mend_146 : decode cX10_mend 146 = .ok (.iconst 3, 1) := by decide +kernel
theorem dX10_mend_147 : decode cX10_mend 147 = .ok (.iadd, 1) := by decide +kernel
theorem dX10_mend_148 : decode cX10_mend 148 = .ok (.iload_n 3, 1) := by decide +kernel
theorem dX10_mend_149 : decode cX10_mend 149 = .ok (.iastore, 1) := by decide +kernel
theorem dX10_mend_150 : decode cX10_mend 150 = .ok (.aload_n 0, 1) := by decide +kernel
theorem dX10_mend_151 : decode cX10_mend 151 = .ok (.dup, 1) := by decide +kernel
theorem dX10_mend_152 : decode cX10_mend 152 = .ok (.getfield 145, 3) := by decide +kernel
theorem dX10_mend_155 : decode cX10_mend 155 = .ok (.iconst 1, 1) := by decide +kernel
theorem dX10_mend_156 : decode cX10_mend 156 = .ok (.iadd, 1) := by decide +kernel
theorem dX10_mend_157 : decode cX10_mend 157 = .ok (.putfield 145, 3) := by decide +kernel
theorem dX10_mend_160 : decode cX10_mend 160 = .ok (.aload_n 0, 1) := by decide +kernel
theorem dX10_mend_161 : decode cX10_mend 161 = .ok (.aload_n 0, 1) := by decide +kernel
theorem dX10_mend_162 : decode cX10_mend 162 = .ok (.getfield 145, 3) := by decide +kernel
theorem dX10_mend_165 : decode cX10_mend 165 = .ok (.putfield 148, 3) := by decide +kernel
theorem dX10_mend_168 : decode cX10_mend 168 = .ok (.iload 4, 2) := by decide +kernel
theorem dX10_mend_170 : decode cX10_mend 170 = .ok (.ireturn, 1) := by decide +kernel
theorem dX10_of_0 : decode cX10_of 0 = .ok (.aload_n 0, 1) := by decide +kernel
theorem dX10_of_1 : decode cX10_of 1 = .ok (.iload_n 1, 1) := by decide +kernel
theorem dX10_of_2 : decode cX10_of 2 = .ok (.iload_n 2, 1) := by decide +kernel
theorem dX10_of_3 : decode cX10_of 3 = .ok (.invokevirtual 131, 3) := by decide +kernel
theorem dX10_of_6 : decode cX10_of 6 = .ok (.ifCond .eq 12, 3) := by decide +kernel
theorem dX10_of_9 : decode cX10_of 9 = .ok (.aload_n 0, 1) := by decide +kernel
theorem dX10_of_10 : decode cX10_of 10 = .ok (.iload_n 1, 1) := by decide +kernel
theorem dX10_of_11 : decode cX10_of 11 = .ok (.iload_n 2, 1) := by decide +kernel
theorem dX10_of_12 : decode cX10_of 12 = .ok (.invokevirtual 138, 3) := by decide +kernel
theorem dX10_of_15 : decode cX10_of 15 = .ok (.goto 4, 3) := by decide +kernel
theorem dX10_of_18 : decode cX10_of 18 = .ok (.iconst (-1), 1) := by decide +kernel
theorem dX10_of_19 : decode cX10_of 19 = .ok (.ireturn, 1) := by decide +kernel
theorem dX10_undo_0 : decode cX10_undo 0 = .ok (.aload_n 0, 1) := by decide +kernel
theorem dX10_undo_1 : decode cX10_undo 1 = .ok (.getfield 145, 3) := by decide +kernel
theorem dX10_undo_4 : decode cX10_undo 4 = .ok (.ifCond .ne 6, 3) := by decide +kernel
theorem dX10_undo_7 : decode cX10_undo 7 = .ok (.bipush (-5), 2) := by decide +kernel
theorem dX10_undo_9 : decode cX10_undo 9 = .ok (.ireturn, 1) := by decide +kernel
theorem dX10_undo_10 : decode cX10_undo 10 = .ok (.aload_n 0, 1) := by decide +kernel
theorem dX10_undo_11 : decode cX10_undo 11 = .ok (.dup, 1) := by decide +kernel
theorem dX10_undo_12 : decode cX10_undo 12 = .ok (.getfield 145, 3) := by decide +kernel
theorem dX10_undo_15 : decode cX10_undo 15 = .ok (.iconst 1, 1) := by decide +kernel
theorem dX10_undo_16 : decode cX10_undo 16 = .ok (.isub, 1) := by decide +kernel
theorem dX10_undo_17 : decode cX10_undo 17 = .ok (.putfield 145, 3) := by decide +kernel
theorem dX10_undo_20 : decode cX10_undo 20 = .ok (.aload_n 0, 1) := by decide +kernel
theorem dX10_undo_21 : decode cX10_undo 21 = .ok (.aload_n 0, 1) := by decide +kernel
theorem dX10_undo_22 : decode cX10_undo 22 = .ok (.getfield 69, 3) := by decide +kernel
theorem dX10_undo_25 : decode cX10_undo 25 = .ok (.iconst 4, 1) := by decide +kernel
theorem dX10_undo_26 : decode cX10_undo 26 = .ok (.aload_n 0, 1) := by decide +kernel
theorem dX10_undo_27 : decode cX10_undo 27 = .ok (.getfield 145, 3) := by decide +kernel
theorem dX10_undo_30 : decode cX10_undo 30 = .ok (.imul, 1) := by decide +kernel
theorem dX10_undo_31 : decode cX10_undo 31 = .ok (.iaload, 1) := by decide +kernel
theorem dX10_undo_32 : decode cX10_undo 32 = .ok (.aload_n 0, 1) := by decide +kernel
theorem dX10_undo_33 : decode cX10_undo 33 = .ok (.getfield 69, 3) := by decide +kernel
theorem dX10_undo_36 : decode cX10_undo 36 = .ok (.iconst 4, 1) := by decide +kernel
theorem dX10_undo_37 : decode cX10_undo 37 = .ok (.aload_n 0, 1) := by decide +kernel
theorem dX10_undo_38 : decode cX10_undo 38 = .ok (.getfield 145, 3) := by decide +kernel
theorem dX10_undo_41 : decode cX10_undo 41 = .ok (.imul, 1) := by decide +kernel
theorem dX10_undo_42 : decode cX10_undo 42 = .ok (.iconst 1, 1) := by decide +kernel
theorem dX10_undo_43 : decode cX10_undo 43 = .ok (.iadd, 1) := by decide +kernel
theorem dX10_undo_44 : decode cX10_undo 44 = .ok (.iaload, 1) := by decide +kernel
theorem dX10_undo_45 : decode cX10_undo 45 = .ok (.aload_n 0, 1) := by decide +kernel
theorem dX10_undo_46 : decode cX10_undo 46 = .ok (.getfield 69, 3) := by decide +kernel
theorem dX10_undo_49 : decode cX10_undo 49 = .ok (.iconst 4, 1) := by decide +kernel
theorem dX10_undo_50 : decode cX10_undo 50 = .ok (.aload_n 0, 1) := by decide +kernel
theorem dX10_undo_51 : decode cX10_undo 51 = .ok (.getfield 145, 3) := by decide +kernel
theorem dX10_undo_54 : decode cX10_undo 54 = .ok (.imul, 1) := by decide +kernel
theorem dX10_undo_55 : decode cX10_undo 55 = .ok (.iconst 2, 1) := by decide +kernel
theorem dX10_undo_56 : decode cX10_undo 56 = .ok (.iadd, 1) := by decide +kernel
theorem dX10_undo_57 : decode cX10_undo 57 = .ok (.iaload, 1) := by decide +kernel
theorem dX10_undo_58 : decode cX10_undo 58 = .ok (.invokevirtual 141, 3) := by decide +kernel
theorem dX10_undo_61 : decode cX10_undo 61 = .ok (.aload_n 0, 1) := by decide +kernel
theorem dX10_undo_62 : decode cX10_undo 62 = .ok (.getfield 145, 3) := by decide +kernel
theorem dX10_undo_65 : decode cX10_undo 65 = .ok (.ireturn, 1) := by decide +kernel
theorem dX10_redo_0 : decode cX10_redo 0 = .ok (.aload_n 0, 1) := by decide +kernel
theorem dX10_redo_1 : decode cX10_redo 1 = .ok (.getfield 145, 3) := by decide +kernel
theorem dX10_redo_4 : decode cX10_redo 4 = .ok (.aload_n 0, 1) := by decide +kernel
theorem dX10_redo_5 : decode cX10_redo 5 = .ok (.getfield 148, 3) := by decide +kernel
theorem dX10_redo_8 : decode cX10_redo 8 = .ok (.if_icmp .ne 6, 3) := by decide +kernel
theorem dX10_redo_11 : decode cX10_redo 11 = .ok (.bipush (-5), 2) := by decide +kernel
theorem dX10_redo_13 : decode cX10_redo 13 = .ok (.ireturn, 1) := by decide +kernel
theorem dX10_redo_14 : decode cX10_redo 14 = .ok (.aload_n 0, 1) := by decide +kernel
theorem dX10_redo_15 : decode cX10_redo 15 = .ok (.aload_n 0, 1) := by decide +kernel
theorem dX10_redo_16 : decode cX10_redo 16 = .ok (.getfield 69, 3) := by decide +kernel
theorem dX10_redo_19 : decode cX10_redo 19 = .ok (.iconst 4, 1) := by decide +kernel
theorem dX10_redo_20 : decode cX10_redo 20 = .ok (.aload_n 0, 1) := by decide +kernel
theorem dX10_redo_21 : decode cX10_redo 21 = .ok (.getfield 145, 3) := by decide +kernel
theorem dX10_redo_24 : decode cX10_redo 24 = .ok (.imul, 1) := by decide +kernel
theorem dX10_redo_25 : decode cX10_redo 25 = .ok (.iaload, 1) := by decide +kernel
theorem dX10_redo_26 : decode cX10_redo 26 = .ok (.aload_n 0, 1) := by decide +kernel
theorem dX10_redo_27 : decode cX10_redo 27 = .ok (.getfield 69, 3) := by decide +kernel
theorem dX10_redo_30 : decode cX10_redo 30 = .ok (.iconst 4, 1) := by decide +kernel
theorem dX10_redo_31 : decode cX10_redo 31 = .ok (.aload_n 0, 1) := by decide +kernel
theorem dX10_redo_32 : decode cX10_redo 32 = .ok (.getfield 145, 3) := by decide +kernel
theorem dX10_redo_35 : decode cX10_redo 35 = .ok (.imul, 1) := by decide +kernel
theorem dX10_redo_36 : decode cX10_redo 36 = .ok (.iconst 1, 1) := by decide +kernel
theorem dX10_redo_37 : decode cX10_redo 37 = .ok (.iadd, 1) := by decide +kernel
theorem dX10_redo_38 : decode cX10_redo 38 = .ok (.iaload, 1) := by decide +kernel
theorem dX10_redo_39 : decode cX10_redo 39 = .ok (.aload_n 0, 1) := by decide +kernel
theorem dX10_redo_40 : decode cX10_redo 40 = .ok (.getfield 69, 3) := by decide +kernel
theorem dX10_redo_43 : decode cX10_redo 43 = .ok (.iconst 4, 1) := by decide +kernel
theorem dX10_redo_44 : decode cX10_redo 44 = .ok (.aload_n 0, 1) := by decide +kernel
theorem dX10_redo_45 : decode cX10_redo 45 = .ok (.getfield 145, 3) := by decide +kernel
theorem dX10_redo_48 : decode cX10_redo 48 = .ok (.imul, 1) := by decide +kernel
theorem dX10_redo_49 : decode cX10_redo 49 = .ok (.iconst 3, 1) := by decide +kernel
theorem dX10_redo_50 : decode cX10_redo 50 = .ok (.iadd, 1) := by decide +kernel
theorem dX10_redo_51 : decode cX10_redo 51 = .ok (.iaload, 1) := by decide +kernel
theorem dX10_redo_52 : decode cX10_redo 52 = .ok (.invokevirtual 141, 3) := by decide +kernel
theorem dX10_redo_55 : decode cX10_redo 55 = .ok (.aload_n 0, 1) := by decide +kernel
theorem dX10_redo_56 : decode cX10_redo 56 = .ok (.dup, 1) := by decide +kernel
theorem dX10_redo_57 : decode cX10_redo 57 = .ok (.getfield 145, 3) := by decide +kernel
theorem dX10_redo_60 : decode cX10_redo 60 = .ok (.iconst 1, 1) := by decide +kernel
theorem dX10_redo_61 : decode cX10_redo 61 = .ok (.iadd, 1) := by decide +kernel
theorem dX10_redo_62 : decode cX10_redo 62 = .ok (.putfield 145, 3) := by decide +kernel
theorem dX10_redo_65 : decode cX10_redo 65 = .ok (.aload_n 0, 1) := by decide +kernel
theorem dX10_redo_66 : decode cX10_redo 66 = .ok (.getfield 148, 3) := by decide +kernel
theorem dX10_redo_69 : decode cX10_redo 69 = .ok (.aload_n 0, 1) := by decide +kernel
theorem dX10_redo_70 : decode cX10_redo 70 = .ok (.getfield 145, 3) := by decide +kernel
theorem dX10_redo_73 : decode cX10_redo 73 = .ok (.isub, 1) := by decide +kernel
theorem dX10_redo_74 : decode cX10_redo 74 = .ok (.ireturn, 1) := by decide +kernel
theorem dX10_feed_0 : decode cX10_feed 0 = .ok (.iload_n 1, 1) := by decide +kernel
theorem dX10_feed_1 : decode cX10_feed 1 = .ok (.iconst 0, 1) := by decide +kernel
theorem dX10_feed_2 : decode cX10_feed 2 = .ok (.sipush 255, 3) := by decide +kernel
theorem dX10_feed_5 : decode cX10_feed 5 = .ok (.invokestatic 103, 3) := by decide +kernel
theorem dX10_feed_8 : decode cX10_feed 8 = .ok (.ifCond .ne 5, 3) := by decide +kernel
theorem dX10_feed_11 : decode cX10_feed 11 = .ok (.iconst (-1), 1) := by decide +kernel
theorem dX10_feed_12 : decode cX10_feed 12 = .ok (.ireturn, 1) := by decide +kernel
theorem dX10_feed_13 : decode cX10_feed 13 = .ok (.aload_n 0, 1) := by decide +kernel
theorem dX10_feed_14 : decode cX10_feed 14 = .ok (.getfield 151, 3) := by decide +kernel
theorem dX10_feed_17 : decode cX10_feed 17 = .ok (.bipush 120, 2) := by decide +kernel
theorem dX10_feed_19 : decode cX10_feed 19 = .ok (.if_icmp .ne 6, 3) := by decide +kernel
theorem dX10_feed_22 : decode cX10_feed 22 = .ok (.bipush (-3), 2) := by decide +kernel
theorem dX10_feed_24 : decode cX10_feed 24 = .ok (.ireturn, 1) := by decide +kernel
theorem dX10_feed_25 : decode cX10_feed 25 = .ok (.aload_n 0, 1) := by decide +kernel
theorem dX10_feed_26 : decode cX10_feed 26 = .ok (.getfield 27, 3) := by decide +kernel
theorem dX10_feed_29 : decode cX10_feed 29 = .ok (.aload_n 0, 1) := by decide +kernel
theorem dX10_feed_30 : decode cX10_feed 30 = .ok (.dup, 1) := by decide +kernel
theorem dX10_feed_31 : decode cX10_feed 31 = .ok (.getfield 151, 3) := by decide +kernel
theorem dX10_feed_34 : decode cX10_feed 34 = .ok (.dup_x1, 1) := by decide +kernel
theorem dX10_feed_35 : decode cX10_feed 35 = .ok (.iconst 1, 1) := by decide +kernel
theorem dX10_feed_36 : decode cX10_feed 36 = .ok (.iadd, 1) := by decide +kernel
theorem dX10_feed_37 : decode cX10_feed 37 = .ok (.putfield 151, 3) := by decide +kernel
theorem dX10_feed_40 : decode cX10_feed 40 = .ok (.iload_n 1, 1) := by decide +kernel
theorem dX10_feed_41 : decode cX10_feed 41 = .ok (.iastore, 1) := by decide +kernel
theorem dX10_feed_42 : decode cX10_feed 42 = .ok (.aload_n 0, 1) := by decide +kernel
theorem dX10_feed_43 : decode cX10_feed 43 = .ok (.getfield 151, 3) := by decide +kernel
theorem dX10_feed_46 : decode cX10_feed 46 = .ok (.ireturn, 1) := by decide +kernel
theorem dX10_sign_0 : decode cX10_sign 0 = .ok (.aload_n 0, 1) := by decide +kernel
theorem dX10_sign_1 : decode cX10_sign 1 = .ok (.getfield 154, 3) := by decide +kernel
theorem dX10_sign_4 : decode cX10_sign 4 = .ok (.aload_n 0, 1) := by decide +kernel
theorem dX10_sign_5 : decode cX10_sign 5 = .ok (.getfield 151, 3) := by decide +kernel
theorem dX10_sign_8 : decode cX10_sign 8 = .ok (.if_icmp .ge 15, 3) := by decide +kernel
theorem dX10_sign_11 : decode cX10_sign 11 = .ok (.aload_n 0, 1) := by decide +kernel
theorem dX10_sign_12 : decode cX10_sign 12 = .ok (.getfield 27, 3) := by decide +kernel
theorem dX10_sign_15 : decode cX10_sign 15 = .ok (.aload_n 0, 1) := by decide +kernel
theorem dX10_sign_16 : decode cX10_sign 16 = .ok (.getfield 154, 3) := by decide +kernel
theorem dX10_sign_19 : decode cX10_sign 19 = .ok (.iaload, 1) := by decide +kernel
theorem dX10_sign_20 : decode cX10_sign 20 = .ok (.goto 4, 3) := by decide +kernel
theorem dX10_sign_23 : decode cX10_sign 23 = .ok (.iconst (-1), 1) := by decide +kernel
theorem dX10_sign_24 : decode cX10_sign 24 = .ok (.ireturn, 1) := by decide +kernel
theorem dX10_is_0 : decode cX10_is 0 = .ok (.aload_n 0, 1) := by decide +kernel
theorem dX10_is_1 : decode cX10_is 1 = .ok (.invokevirtual 157, 3) := by decide +kernel
theorem dX10_is_4 : decode cX10_is 4 = .ok (.iload_n 1, 1) := by decide +kernel
theorem dX10_is_5 : decode cX10_is 5 = .ok (.if_icmp .eq 5, 3) := by decide +kernel
theorem dX10_is_8 : decode cX10_is 8 = .ok (.iconst 0, 1) := by decide +kernel
theorem dX10_is_9 : decode cX10_is 9 = .ok (.ireturn, 1) := by decide +kernel
theorem dX10_is_10 : decode cX10_is 10 = .ok (.aload_n 0, 1) := by decide +kernel
theorem dX10_is_11 : decode cX10_is 11 = .ok (.dup, 1) := by decide +kernel
theorem dX10_is_12 : decode cX10_is 12 = .ok (.getfield 154, 3) := by decide +kernel
theorem dX10_is_15 : decode cX10_is 15 = .ok (.iconst 1, 1) := by decide +kernel
theorem dX10_is_16 : decode cX10_is 16 = .ok (.iadd, 1) := by decide +kernel
theorem dX10_is_17 : decode cX10_is 17 = .ok (.putfield 154, 3) := by decide +kernel
theorem dX10_is_20 : decode cX10_is 20 = .ok (.iconst 1, 1) := by decide +kernel
theorem dX10_is_21 : decode cX10_is 21 = .ok (.ireturn, 1) := by decide +kernel
theorem dX10_codes_0 : decode cX10_codes 0 = .ok (.aload_n 0, 1) := by decide +kernel
theorem dX10_codes_1 : decode cX10_codes 1 = .ok (.getfield 51, 3) := by decide +kernel
theorem dX10_codes_4 : decode cX10_codes 4 = .ok (.aload_n 0, 1) := by decide +kernel
theorem dX10_codes_5 : decode cX10_codes 5 = .ok (.dup, 1) := by decide +kernel
theorem dX10_codes_6 : decode cX10_codes 6 = .ok (.getfield 161, 3) := by decide +kernel
theorem dX10_codes_9 : decode cX10_codes 9 = .ok (.dup_x1, 1) := by decide +kernel
theorem dX10_codes_10 : decode cX10_codes 10 = .ok (.iconst 1, 1) := by decide +kernel
theorem dX10_codes_11 : decode cX10_codes 11 = .ok (.iadd, 1) := by decide +kernel
theorem dX10_codes_12 : decode cX10_codes 12 = .ok (.putfield 161, 3) := by decide +kernel
theorem dX10_codes_15 : decode cX10_codes 15 = .ok (.iload_n 1, 1) := by decide +kernel
theorem dX10_codes_16 : decode cX10_codes 16 = .ok (.iastore, 1) := by decide +kernel
theorem dX10_codes_17 : decode cX10_codes 17 = .ok (.iconst 1, 1) := by decide +kernel
theorem dX10_codes_18 : decode cX10_codes 18 = .ok (.ireturn, 1) := by decide +kernel
theorem dX10_isDigit_0 : decode cX10_isDigit 0 = .ok (.aload_n 0, 1) := by decide +kernel
theorem dX10_isDigit_1 : decode cX10_isDigit 1 = .ok (.invokevirtual 157, 3) := by decide +kernel
theorem dX10_isDigit_4 : decode cX10_isDigit 4 = .ok (.bipush 48, 2) := by decide +kernel
theorem dX10_isDigit_6 : decode cX10_isDigit 6 = .ok (.if_icmp .lt 16, 3) := by decide +kernel
theorem dX10_isDigit_9 : decode cX10_isDigit 9 = .ok (.aload_n 0, 1) := by decide +kernel
theorem dX10_isDigit_10 : decode cX10_isDigit 10 = .ok (.invokevirtual 157, 3) := by decide +kernel
theorem dX10_isDigit_13 : decode cX10_isDigit 13 = .ok (.bipush 57, 2) := by decide +kernel
theorem dX10_isDigit_15 : decode cX10_isDigit 15 = .ok (.if_icmp .gt 7, 3) := by decide +kernel
theorem dX10_isDigit_18 : decode cX10_isDigit 18 = .ok (.iconst 1, 1) := by decide +kernel
theorem dX10_isDigit_19 : decode cX10_isDigit 19 = .ok (.goto 4, 3) := by decide +kernel
theorem dX10_isDigit_22 : decode cX10_isDigit 22 = .ok (.iconst 0, 1) := by decide +kernel
theorem dX10_isDigit_23 : decode cX10_isDigit 23 = .ok (.ireturn, 1) := by decide +kernel
theorem dX10_nameOf_0 : decode cX10_nameOf 0 = .ok (.iload_n 0, 1) := by decide +kernel
theorem dX10_nameOf_1 : decode cX10_nameOf 1 = .ok (.tableswitch 79 109 121 #[73, 75, 79, 79, 79, 79, 67, 69, 79, 79, 71, 79, 77], 67) := by decide +kernel
theorem dX10_nameOf_68 : decode cX10_nameOf 68 = .ok (.iconst 0, 1) := by decide +kernel
theorem dX10_nameOf_69 : decode cX10_nameOf 69 = .ok (.ireturn, 1) := by decide +kernel
theorem dX10_nameOf_70 : decode cX10_nameOf 70 = .ok (.iconst 1, 1) := by decide +kernel
theorem dX10_nameOf_71 : decode cX10_nameOf 71 = .ok (.ireturn, 1) := by decide +kernel
theorem dX10_nameOf_72 : decode cX10_nameOf 72 = .ok (.iconst 2, 1) := by decide +kernel
theorem dX10_nameOf_73 : decode cX10_nameOf 73 = .ok (.ireturn, 1) := by decide +kernel
theorem dX10_nameOf_74 : decode cX10_nameOf 74 = .ok (.iconst 3, 1) := by decide +kernel
theorem dX10_nameOf_75 : decode cX10_nameOf 75 = .ok (.ireturn, 1) := by decide +kernel
theorem dX10_nameOf_76 : decode cX10_nameOf 76 = .ok (.iconst 4, 1) := by decide +kernel
theorem dX10_nameOf_77 : decode cX10_nameOf 77 = .ok (.ireturn, 1) := by decide +kernel
theorem dX10_nameOf_78 : decode cX10_nameOf 78 = .ok (.iconst 5, 1) := by decide +kernel
theorem dX10_nameOf_79 : decode cX10_nameOf 79 = .ok (.ireturn, 1) := by decide +kernel
theorem dX10_nameOf_80 : decode cX10_nameOf 80 = .ok (.iconst (-1), 1) := by decide +kernel
theorem dX10_nameOf_81 : decode cX10_nameOf 81 = .ok (.ireturn, 1) := by decide +kernel
theorem dX10_isO_0 : decode cX10_isO 0 = .ok (.aload_n 0, 1) := by decide +kernel
theorem dX10_isO_1 : decode cX10_isO 1 = .ok (.invokevirtual 164, 3) := by decide +kernel
theorem dX10_isO_4 : decode cX10_isO 4 = .ok (.ifCond .eq 62, 3) := by decide +kernel
theorem dX10_isO_7 : decode cX10_isO 7 = .ok (.iconst 0, 1) := by decide +kernel
theorem dX10_isO_8 : decode cX10_isO 8 = .ok (.istore_n 1, 1) := by decide +kernel
theorem dX10_isO_9 : decode cX10_isO 9 = .ok (.iconst 0, 1) := by decide +kernel
theorem dX10_isO_10 : decode cX10_isO 10 = .ok (.istore_n 2, 1) := by decide +kernel
theorem dX10_isO_11 : decode cX10_isO 11 = .ok (.iload_n 2, 1) := by decide +kernel
theorem dX10_isO_12 : decode cX10_isO 12 = .ok (.iconst 4, 1) := by decide +kernel
theorem dX10_isO_13 : decode cX10_isO 13 = .ok (.if_icmp .ge 44, 3) := by decide +kernel
theorem dX10_isO_16 : decode cX10_isO 16 = .ok (.aload_n 0, 1) := by decide +kernel
theorem dX10_isO_17 : decode cX10_isO 17 = .ok (.invokevirtual 164, 3) := by decide +kernel
theorem dX10_isO_20 : decode cX10_isO 20 = .ok (.ifCond .eq 37, 3) := by decide +kernel
theorem dX10_isO_23 : decode cX10_isO 23 = .ok (.bipush 10, 2) := by decide +kernel
theorem dX10_isO_25 : decode cX10_isO 25 = .ok (.iload_n 1, 1) := by decide +kernel
theorem dX10_isO_26 : decode cX10_isO 26 = .ok (.imul, 1) := by decide +kernel
theorem dX10_isO_27 : decode cX10_isO 27 = .ok (.aload_n 0, 1) := by decide +kernel
theorem dX10_isO_28 : decode cX10_isO 28 = .ok (.getfield 27, 3) := by decide +kernel
theorem dX10_isO_31 : decode cX10_isO 31 = .ok (.aload_n 0, 1) := by decide +kernel
theorem dX10_isO_32 : decode cX10_isO 32 = .ok (.getfield 154, 3) := by decide +kernel
theorem dX10_isO_35 : decode cX10_isO 35 = .ok (.iaload, 1) := by decide +kernel
theorem dX10_isO_36 : decode cX10_isO 36 = .ok (.iadd, 1) := by decide +kernel
theorem dX10_isO_37 : decode cX10_isO 37 = .ok (.bipush 48, 2) := by decide +kernel
theorem dX10_isO_39 : decode cX10_isO 39 = .ok (.isub, 1) := by decide +kernel
theorem dX10_isO_40 : decode cX10_isO 40 = .ok (.istore_n 1, 1) := by decide +kernel
theorem dX10_isO_41 : decode cX10_isO 41 = .ok (.aload_n 0, 1) := by decide +kernel
theorem dX10_isO_42 : decode cX10_isO 42 = .ok (.dup, 1) := by decide +kernel
theorem dX10_isO_43 : decode cX10_isO 43 = .ok (.getfield 154, 3) := by decide +kernel
theorem dX10_isO_46 : decode cX10_isO 46 = .ok (.iconst 1, 1) := by decide +kernel
theorem dX10_isO_47 : decode cX10_isO 47 = .ok (.iadd, 1) := by decide +kernel
theorem dX10_isO_48 : decode cX10_isO 48 = .ok (.putfield 154, 3) := by decide +kernel
theorem dX10_isO_51 : decode cX10_isO 51 = .ok (.iinc 2 1, 3) := by decide +kernel
theorem dX10_isO_54 : decode cX10_isO 54 = .ok (.goto (-43), 3) := by decide +kernel
theorem dX10_isO_57 : decode cX10_isO 57 = .ok (.aload_n 0, 1) := by decide +kernel
theorem dX10_isO_58 : decode cX10_isO 58 = .ok (.bipush 18, 2) := by decide +kernel
theorem dX10_isO_60 : decode cX10_isO 60 = .ok (.iload_n 1, 1) := by decide +kernel
theorem dX10_isO_61 : decode cX10_isO 61 = .ok (.iadd, 1) := by decide +kernel
theorem dX10_isO_62 : decode cX10_isO 62 = .ok (.invokevirtual 168, 3) := by decide +kernel
theorem dX10_isO_65 : decode cX10_isO 65 = .ok (.ireturn, 1) := by decide +kernel
theorem dX10_isO_66 : decode cX10_isO 66 = .ok (.aload_n 0, 1) := by decide +kernel
theorem dX10_isO_67 : decode cX10_isO 67 = .ok (.invokevirtual 157, 3) := by decide +kernel
theorem dX10_isO_70 : decode cX10_isO 70 = .ok (.invokestatic 171, 3) := by decide +kernel
theorem dX10_isO_73 : decode cX10_isO 73 = .ok (.istore_n 1, 1) := by decide +kernel
theorem dX10_isO_74 : decode cX10_isO 74 = .ok (.iload_n 1, 1) := by decide +kernel
theorem dX10_isO_75 : decode cX10_isO 75 = .ok (.ifCond .lt 19, 3) := by decide +kernel
theorem dX10_isO_78 : decode cX10_isO 78 = .ok (.aload_n 0, 1) := by decide +kernel
theorem dX10_isO_79 : decode cX10_isO 79 = .ok (.dup, 1) := by decide +kernel
theorem dX10_isO_80 : decode cX10_isO 80 = .ok (.getfield 154, 3) := by decide +kernel
theorem dX10_isO_83 : decode cX10_isO 83 = .ok (.iconst 1, 1) := by decide +kernel
theorem dX10_isO_84 : decode cX10_isO 84 = .ok (.iadd, 1) := by decide +kernel
theorem dX10_isO_85 : decode cX10_isO 85 = .ok (.putfield 154, 3) := by decide +kernel
theorem dX10_isO_88 : decode cX10_isO 88 = .ok (.aload_n 0, 1) := by decide +kernel
theorem dX10_isO_89 : decode cX10_isO 89 = .ok (.iload_n 1, 1) := by decide +kernel
theorem dX10_isO_90 : decode cX10_isO 90 = .ok (.invokevirtual 168, 3) := by decide +kernel
theorem dX10_isO_93 : decode cX10_isO 93 = .ok (.ireturn, 1) := by decide +kernel
theorem dX10_isO_94 : decode cX10_isO 94 = .ok (.aload_n 0, 1) := by decide +kernel
theorem dX10_isO_95 : decode cX10_isO 95 = .ok (.getfield 175, 3) := by decide +kernel
theorem dX10_isO_98 : decode cX10_isO 98 = .ok (.bipush 6, 2) := by decide +kernel
theorem dX10_isO_100 : decode cX10_isO 100 = .ok (.if_icmp .ne 5, 3) := by decide +kernel
theorem dX10_isO_103 : decode cX10_isO 103 = .ok (.iconst 0, 1) := by decide +kernel
theorem dX10_isO_104 : decode cX10_isO 104 = .ok (.ireturn, 1) := by decide +kernel
theorem dX10_isO_105 : decode cX10_isO 105 = .ok (.aload_n 0, 1) := by decide +kernel
theorem dX10_isO_106 : decode cX10_isO 106 = .ok (.dup, 1) := by decide +kernel
theorem dX10_isO_107 : decode cX10_isO 107 = .ok (.getfield 175, 3) := by decide +kernel
theorem dX10_isO_110 : decode cX10_isO 110 = .ok (.iconst 1, 1) := by decide +kernel
theorem dX10_isO_111 : decode cX10_isO 111 = .ok (.iadd, 1) := by decide +kernel
theorem dX10_isO_112 : decode cX10_isO 112 = .ok (.putfield 175, 3) := by decide +kernel
theorem dX10_isO_115 : decode cX10_isO 115 = .ok (.aload_n 0, 1) := by decide +kernel
theorem dX10_isO_116 : decode cX10_isO 116 = .ok (.bipush 33, 2) := by decide +kernel
theorem dX10_isO_118 : decode cX10_isO 118 = .ok (.invokevirtual 178, 3) := by decide +kernel
theorem dX10_isO_121 : decode cX10_isO 121 = .ok (.ifCond .eq 28, 3) := by decide +kernel
theorem dX10_isO_124 : decode cX10_isO 124 = .ok (.aload_n 0, 1) := by decide +kernel
theorem dX10_isO_125 : decode cX10_isO 125 = .ok (.invokevirtual 181, 3) := by decide +kernel
theorem dX10_isO_128 : decode cX10_isO 128 = .ok (.ifCond .eq 16, 3) := by decide +kernel
theorem dX10_isO_131 : decode cX10_isO 131 = .ok (.aload_n 0, 1) := by decide +kernel
theorem dX10_isO_132 : decode cX10_isO 132 = .ok (.bipush 16, 2) := by decide +kernel
theorem dX10_isO_134 : decode cX10_isO 134 = .ok (.invokevirtual 168, 3) := by decide +kernel
theorem dX10_isO_137 : decode cX10_isO 137 = .ok (.ifCond .eq 7, 3) := by decide +kernel
theorem dX10_isO_140 : decode cX10_isO 140 = .ok (.iconst 1, 1) := by decide +kernel
theorem dX10_isO_141 : decode cX10_isO 141 = .ok (.goto 4, 3) := by decide +kernel
theorem dX10_isO_144 : decode cX10_isO 144 = .ok (.iconst 0, 1) := by decide +kernel
theorem dX10_isO_145 : decode cX10_isO 145 = .ok (.istore_n 2, 1) := by decide +kernel
theorem dX10_isO_146 : decode cX10_isO 146 = .ok (.goto 68, 3) := by decide +kernel
theorem dX10_isO_149 : decode cX10_isO 149 = .ok (.aload_n 0, 1) := by decide +kernel
theorem dX10_isO_150 : decode cX10_isO 150 = .ok (.bipush 45, 2) := by decide +kernel
theorem dX10_isO_152 : decode cX10_isO 152 = .ok (.invokevirtual 178, 3) := by decide +kernel
theorem dX10_isO_155 : decode cX10_isO 155 = .ok (.ifCond .eq 28, 3) := by decide +kernel
theorem dX10_isO_158 : decode cX10_isO 158 = .ok (.aload_n 0, 1) := by decide +kernel
theorem dX10_isO_159 : decode cX10_isO 159 = .ok (.invokevirtual 181, 3) := by decide +kernel
theorem dX10_isO_162 : decode cX10_isO 162 = .ok (.ifCond .eq 16, 3) := by decide +kernel
theorem dX10_isO_165 : decode cX10_isO 165 = .ok (.aload_n 0, 1) := by decide +kernel
theorem dX10_isO_166 : decode cX10_isO 166 = .ok (.bipush 17, 2) := by decide +kernel
theorem dX10_isO_168 : decode cX10_isO 168 = .ok (.invokevirtual 168, 3) := by decide +kernel
theorem dX10_isO_171 : decode cX10_isO 171 = .ok (.ifCond .eq 7, 3) := by decide +kernel
theorem dX10_isO_174 : decode cX10_isO 174 = .ok (.iconst 1, 1) := by decide +kernel
theorem dX10_isO_175 : decode cX10_isO 175 = .ok (.goto 4, 3) := by decide +kernel
theorem dX10_isO_178 : decode cX10_isO 178 = .ok (.iconst 0, 1) := by decide +kernel
theorem dX10_isO_179 : decode cX10_isO 179 = .ok (.istore_n 2, 1) := by decide +kernel
theorem dX10_isO_180 : decode cX10_isO 180 = .ok (.goto 34, 3) := by decide +kernel
theorem dX10_isO_183 : decode cX10_isO 183 = .ok (.aload_n 0, 1) := by decide +kernel
theorem dX10_isO_184 : decode cX10_isO 184 = .ok (.bipush 40, 2) := by decide +kernel
theorem dX10_isO_186 : decode cX10_isO 186 = .ok (.invokevirtual 178, 3) := by decide +kernel
theorem dX10_isO_189 : decode cX10_isO 189 = .ok (.ifCond .eq 23, 3) := by decide +kernel
theorem dX10_isO_192 : decode cX10_isO 192 = .ok (.aload_n 0, 1) := by decide +kernel
theorem dX10_isO_193 : decode cX10_isO 193 = .ok (.invokevirtual 184, 3) := by decide +kernel
theorem dX10_isO_196 : decode cX10_isO 196 = .ok (.ifCond .eq 16, 3) := by decide +kernel
theorem dX10_isO_199 : decode cX10_isO 199 = .ok (.aload_n 0, 1) := by decide +kernel
theorem dX10_isO_200 : decode cX10_isO 200 = .ok (.bipush 41, 2) := by decide +kernel
theorem dX10_isO_202 : decode cX10_isO 202 = .ok (.invokevirtual 178, 3) := by decide +kernel
theorem dX10_isO_205 : decode cX10_isO 205 = .ok (.ifCond .eq 7, 3) := by decide +kernel
theorem dX10_isO_208 : decode cX10_isO 208 = .ok (.iconst 1, 1) := by decide +kernel
theorem dX10_isO_209 : decode cX10_isO 209 = .ok (.goto 4, 3) := by decide +kernel
theorem dX10_isO_212 : decode cX10_isO 212 = .ok (.iconst 0, 1) := by decide +kernel
theorem dX10_isO_213 : decode cX10_isO 213 = .ok (.istore_n 2, 1) := by decide +kernel
theorem dX10_isO_214 : decode cX10_isO 214 = .ok (.aload_n 0, 1) := by decide +kernel
theorem dX10_isO_215 : decode cX10_isO 215 = .ok (.dup, 1) := by decide +kernel
theorem dX10_isO_216 : decode cX10_isO 216 = .ok (.getfield 175, 3) := by decide +kernel
theorem dX10_isO_219 : decode cX10_isO 219 = .ok (.iconst 1, 1) := by decide +kernel
theorem dX10_isO_220 : decode cX10_isO 220 = .ok (.isub, 1) := by decide +kernel
theorem dX10_isO_221 : decode cX10_isO 221 = .ok (.putfield 175, 3) := by decide +kernel
theorem dX10_isO_224 : decode cX10_isO 224 = .ok (.iload_n 2, 1) := by decide +kernel
theorem dX10_isO_225 : decode cX10_isO 225 = .ok (.ireturn, 1) := by decide +kernel
theorem dX10_isP_0 : decode cX10_isP 0 = .ok (.aload_n 0, 1) := by decide +kernel
theorem dX10_isP_1 : decode cX10_isP 1 = .ok (.invokevirtual 181, 3) := by decide +kernel
theorem dX10_isP_4 : decode cX10_isP 4 = .ok (.ifCond .ne 5, 3) := by decide +kernel
theorem dX10_isP_7 : decode cX10_isP 7 = .ok (.iconst 0, 1) := by decide +kernel
theorem dX10_isP_8 : decode cX10_isP 8 = .ok (.ireturn, 1) := by decide +kernel
theorem dX10_isP_9 : decode cX10_isP 9 = .ok (.aload_n 0, 1) := by decide +kernel
theorem dX10_isP_10 : decode cX10_isP 10 = .ok (.invokevirtual 157, 3) := by decide +kernel
theorem dX10_isP_13 : decode cX10_isP 13 = .ok (.bipush 42, 2) := by decide +kernel
theorem dX10_isP_15 : decode cX10_isP 15 = .ok (.if_icmp .ne 8, 3) := by decide +kernel
theorem dX10_isP_18 : decode cX10_isP 18 = .ok (.bipush 13, 2) := by decide +kernel
theorem dX10_isP_20 : decode cX10_isP 20 = .ok (.goto 32, 3) := by decide +kernel
theorem dX10_isP_23 : decode cX10_isP 23 = .ok (.aload_n 0, 1) := by decide +kernel
theorem dX10_isP_24 : decode cX10_isP 24 = .ok (.invokevirtual 157, 3) := by decide +kernel
theorem dX10_isP_27 : decode cX10_isP 27 = .ok (.bipush 47, 2) := by decide +kernel
theorem dX10_isP_29 : decode cX10_isP 29 = .ok (.if_icmp .ne 8, 3) := by decide +kernel
theorem dX10_isP_32 : decode cX10_isP 32 = .ok (.bipush 14, 2) := by decide +kernel
theorem dX10_isP_34 : decode cX10_isP 34 = .ok (.goto 18, 3) := by decide +kernel
theorem dX10_isP_37 : decode cX10_isP 37 = .ok (.aload_n 0, 1) := by decide +kernel
theorem dX10_isP_38 : decode cX10_isP 38 = .ok (.invokevirtual 157, 3) := by decide +kernel
theorem dX10_isP_41 : decode cX10_isP 41 = .ok (.bipush 37, 2) := by decide +kernel
theorem dX10_isP_43 : decode cX10_isP 43 = .ok (.if_icmp .ne 8, 3) := by decide +kernel
theorem dX10_isP_46 : decode cX10_isP 46 = .ok (.bipush 15, 2) := by decide +kernel
theorem dX10_isP_48 : decode cX10_isP 48 = .ok (.goto 4, 3) := by decide +kernel
theorem dX10_isP_51 : decode cX10_isP 51 = .ok (.iconst (-1), 1) := by decide +kernel
theorem dX10_isP_52 : decode cX10_isP 52 = .ok (.istore_n 1, 1) := by decide +kernel
theorem dX10_isP_53 : decode cX10_isP 53 = .ok (.iload_n 1, 1) := by decide +kernel
theorem dX10_isP_54 : decode cX10_isP 54 = .ok (.ifCond .ge 5, 3) := by decide +kernel
theorem dX10_isP_57 : decode cX10_isP 57 = .ok (.iconst 1, 1) := by decide +kernel
theorem dX10_isP_58 : decode cX10_isP 58 = .ok (.ireturn, 1) := by decide +kernel
theorem dX10_isP_59 : decode cX10_isP 59 = .ok (.aload_n 0, 1) := by decide +kernel
theorem dX10_isP_60 : decode cX10_isP 60 = .ok (.dup, 1) := by decide +kernel
theorem dX10_isP_61 : decode cX10_isP 61 = .ok (.getfield 154, 3) := by decide +kernel
theorem dX10_isP_64 : decode cX10_isP 64 = .ok (.iconst 1, 1) := by decide +kernel
theorem dX10_isP_65 : decode cX10_isP 65 = .ok (.iadd, 1) := by decide +kernel
theorem dX10_isP_66 : decode cX10_isP 66 = .ok (.putfield 154, 3) := by decide +kernel
theorem dX10_isP_69 : decode cX10_isP 69 = .ok (.aload_n 0, 1) := by decide +kernel
theorem dX10_isP_70 : decode cX10_isP 70 = .ok (.invokevirtual 181, 3) := by decide +kernel
theorem dX10_isP_73 : decode cX10_isP 73 = .ok (.ifCond .ne 5, 3) := by decide +kernel
theorem dX10_isP_76 : decode cX10_isP 76 = .ok (.iconst 0, 1) := by decide +kernel
theorem dX10_isP_77 : decode cX10_isP 77 = .ok (.ireturn, 1) := by decide +kernel
theorem dX10_isP_78 : decode cX10_isP 78 = .ok (.aload_n 0, 1) := by decide +kernel
theorem dX10_isP_79 : decode cX10_isP 79 = .ok (.iload_n 1, 1) := by decide +kernel
theorem dX10_isP_80 : decode cX10_isP 80 = .ok (.invokevirtual 168, 3) := by decide +kernel
theorem dX10_isP_83 : decode cX10_isP 83 = .ok (.pop, 1) := by decide +kernel
theorem dX10_isP_84 : decode cX10_isP 84 = .ok (.goto (-75), 3) := by decide +kernel
theorem dX10_isS_0 : decode cX10_isS 0 = .ok (.aload_n 0, 1) := by decide +kernel
theorem dX10_isS_1 : decode cX10_isS 1 = .ok (.invokevirtual 187, 3) := by decide +kernel
theorem dX10_isS_4 : decode cX10_isS 4 = .ok (.ifCond .ne 5, 3) := by decide +kernel
theorem dX10_isS_7 : decode cX10_isS 7 = .ok (.iconst 0, 1) := by decide +kernel
theorem dX10_isS_8 : decode cX10_isS 8 = .ok (.ireturn, 1) := by decide +kernel
theorem dX10_isS_9 : decode cX10_isS 9 = .ok (.aload_n 0, 1) := by decide +kernel
theorem dX10_isS_10 : decode cX10_isS 10 = .ok (.invokevirtual 157, 3) := by decide +kernel
theorem dX10_isS_13 : decode cX10_isS 13 = .ok (.bipush 43, 2) := by decide +kernel
theorem dX10_isS_15 : decode cX10_isS 15 = .ok (.if_icmp .ne 8, 3) := by decide +kernel
theorem dX10_isS_18 : decode cX10_isS 18 = .ok (.bipush 11, 2) := by decide +kernel
theorem dX10_isS_20 : decode cX10_isS 20 = .ok (.goto 18, 3) := by decide +kernel
theorem dX10_isS_23 : decode cX10_isS 23 = .ok (.aload_n 0, 1) := by decide +kernel
theorem dX10_isS_24 : decode cX10_isS 24 = .ok (.invokevirtual 157, 3) := by decide +kernel
theorem dX10_isS_27 : decode cX10_isS 27 = .ok (.bipush 45, 2) := by decide +kernel
theorem dX10_isS_29 : decode cX10_isS 29 = .ok (.if_icmp .ne 8, 3) := by decide +kernel
theorem dX10_isS_32 : decode cX10_isS 32 = .ok (.bipush 12, 2) := by decide +kernel
theorem dX10_isS_34 : decode cX10_isS 34 = .ok (.goto 4, 3) := by decide +kernel
theorem dX10_isS_37 : decode cX10_isS 37 = .ok (.iconst (-1), 1) := by decide +kernel
theorem dX10_isS_38 : decode cX10_isS 38 = .ok (.istore_n 1, 1) := by decide +kernel
theorem dX10_isS_39 : decode cX10_isS 39 = .ok (.iload_n 1, 1) := by decide +kernel
theorem dX10_isS_40 : decode cX10_isS 40 = .ok (.ifCond .ge 5, 3) := by decide +kernel
theorem dX10_isS_43 : decode cX10_isS 43 = .ok (.iconst 1, 1) := by decide +kernel
theorem dX10_isS_44 : decode cX10_isS 44 = .ok (.ireturn, 1) := by decide +kernel
theorem dX10_isS_45 : decode cX10_isS 45 = .ok (.aload_n 0, 1) := by decide +kernel
theorem dX10_isS_46 : decode cX10_isS 46 = .ok (.dup, 1) := by decide +kernel
theorem dX10_isS_47 : decode cX10_isS 47 = .ok (.getfield 154, 3) := by decide +kernel
theorem dX10_isS_50 : decode cX10_isS 50 = .ok (.iconst 1, 1) := by decide +kernel
theorem dX10_isS_51 : decode cX10_isS 51 = .ok (.iadd, 1) := by decide +kernel
theorem dX10_isS_52 : decode cX10_isS 52 = .ok (.putfield 154, 3) := by decide +kernel
theorem dX10_isS_55 : decode cX10_isS 55 = .ok (.aload_n 0, 1) := by decide +kernel
theorem dX10_isS_56 : decode cX10_isS 56 = .ok (.invokevirtual 187, 3) := by decide +kernel
theorem dX10_isS_59 : decode cX10_isS 59 = .ok (.ifCond .ne 5, 3) := by decide +kernel
theorem dX10_isS_62 : decode cX10_isS 62 = .ok (.iconst 0, 1) := by decide +kernel
theorem dX10_isS_63 : decode cX10_isS 63 = .ok (.ireturn, 1) := by decide +kernel
theorem dX10_isS_64 : decode cX10_isS 64 = .ok (.aload_n 0, 1) := by decide +kernel
theorem dX10_isS_65 : decode cX10_isS 65 = .ok (.iload_n 1, 1) := by decide +kernel
theorem dX10_isS_66 : decode cX10_isS 66 = .ok (.invokevirtual 168, 3) := by decide +kernel
theorem dX10_isS_69 : decode cX10_isS 69 = .ok (.pop, 1) := by decide +kernel
theorem dX10_isS_70 : decode cX10_isS 70 = .ok (.goto (-61), 3) := by decide +kernel
theorem dX10_isB_0 : decode cX10_isB 0 = .ok (.aload_n 0, 1) := by decide +kernel
theorem dX10_isB_1 : decode cX10_isB 1 = .ok (.invokevirtual 190, 3) := by decide +kernel
theorem dX10_isB_4 : decode cX10_isB 4 = .ok (.ifCond .ne 5, 3) := by decide +kernel
theorem dX10_isB_7 : decode cX10_isB 7 = .ok (.iconst 0, 1) := by decide +kernel
theorem dX10_isB_8 : decode cX10_isB 8 = .ok (.ireturn, 1) := by decide +kernel
theorem dX10_isB_9 : decode cX10_isB 9 = .ok (.aload_n 0, 1) := by decide +kernel
theorem dX10_isB_10 : decode cX10_isB 10 = .ok (.invokevirtual 157, 3) := by decide +kernel
theorem dX10_isB_13 : decode cX10_isB 13 = .ok (.bipush 60, 2) := by decide +kernel
theorem dX10_isB_15 : decode cX10_isB 15 = .ok (.if_icmp .ne 8, 3) := by decide +kernel
theorem dX10_isB_18 : decode cX10_isB 18 = .ok (.bipush 8, 2) := by decide +kernel
theorem dX10_isB_20 : decode cX10_isB 20 = .ok (.goto 32, 3) := by decide +kernel
theorem dX10_isB_23 : decode cX10_isB 23 = .ok (.aload_n 0, 1) := by decide +kernel
theorem dX10_isB_24 : decode cX10_isB 24 = .ok (.invokevirtual 157, 3) := by decide +kernel
theorem dX10_isB_27 : decode cX10_isB 27 = .ok (.bipush 61, 2) := by decide +kernel
theorem dX10_isB_29 : decode cX10_isB 29 = .ok (.if_icmp .ne 8, 3) := by decide +kernel
theorem dX10_isB_32 : decode cX10_isB 32 = .ok (.bipush 9, 2) := by decide +kernel
theorem dX10_isB_34 : decode cX10_isB 34 = .ok (.goto 18, 3) := by decide +kernel
theorem dX10_isB_37 : decode cX10_isB 37 = .ok (.aload_n 0, 1) := by decide +kernel
theorem dX10_isB_38 : decode cX10_isB 38 = .ok (.invokevirtual 157, 3) := by decide +kernel
theorem dX10_isB_41 : decode cX10_isB 41 = .ok (.bipush 62, 2) := by decide +kernel
theorem dX10_isB_43 : decode cX10_isB 43 = .ok (.if_icmp .ne 8, 3) := by decide +kernel
theorem dX10_isB_46 : decode cX10_isB 46 = .ok (.bipush 10, 2) := by decide +kernel
theorem dX10_isB_48 : decode cX10_isB 48 = .ok (.goto 4, 3) := by decide +kernel
theorem dX10_isB_51 : decode cX10_isB 51 = .ok (.iconst (-1), 1) := by decide +kernel
theorem dX10_isB_52 : decode cX10_isB 52 = .ok (.istore_n 1, 1) := by decide +kernel
theorem dX10_isB_53 : decode cX10_isB 53 = .ok (.iload_n 1, 1) := by decide +kernel
theorem dX10_isB_54 : decode cX10_isB 54 = .ok (.ifCond .ge 5, 3) := by decide +kernel
theorem dX10_isB_57 : decode cX10_isB 57 = .ok (.iconst 1, 1) := by decide +kernel
theorem dX10_isB_58 : decode cX10_isB 58 = .ok (.ireturn, 1) := by decide +kernel
theorem dX10_isB_59 : decode cX10_isB 59 = .ok (.aload_n 0, 1) := by decide +kernel
theorem dX10_isB_60 : decode cX10_isB 60 = .ok (.dup, 1) := by decide +kernel
theorem dX10_isB_61 : decode cX10_isB 61 = .ok (.getfield 154, 3) := by decide +kernel
theorem dX10_isB_64 : decode cX10_isB 64 = .ok (.iconst 1, 1) := by decide +kernel
theorem dX10_isB_65 : decode cX10_isB 65 = .ok (.iadd, 1) := by decide +kernel
theorem dX10_isB_66 : decode cX10_isB 66 = .ok (.putfield 154, 3) := by decide +kernel
theorem dX10_isB_69 : decode cX10_isB 69 = .ok (.aload_n 0, 1) := by decide +kernel
theorem dX10_isB_70 : decode cX10_isB 70 = .ok (.invokevirtual 190, 3) := by decide +kernel
theorem dX10_isB_73 : decode cX10_isB 73 = .ok (.ifCond .eq 15, 3) := by decide +kernel
theorem dX10_isB_76 : decode cX10_isB 76 = .ok (.aload_n 0, 1) := by decide +kernel
theorem dX10_isB_77 : decode cX10_isB 77 = .ok (.iload_n 1, 1) := by decide +kernel
theorem dX10_isB_78 : decode cX10_isB 78 = .ok (.invokevirtual 168, 3) := by decide +kernel
theorem dX10_isB_81 : decode cX10_isB 81 = .ok (.ifCond .eq 7, 3) := by decide +kernel
theorem dX10_isB_84 : decode cX10_isB 84 = .ok (.iconst 1, 1) := by decide +kernel
theorem dX10_isB_85 : decode cX10_isB 85 = .ok (.goto 4, 3) := by decide +kernel
theorem dX10_isB_88 : decode cX10_isB 88 = .ok (.iconst 0, 1) := by decide +kernel
theorem dX10_isB_89 : decode cX10_isB 89 = .ok (.ireturn, 1) := by decide +kernel
theorem dX10_isA_0 : decode cX10_isA 0 = .ok (.aload_n 0, 1) := by decide +kernel
theorem dX10_isA_1 : decode cX10_isA 1 = .ok (.invokevirtual 193, 3) := by decide +kernel
theorem dX10_isA_4 : decode cX10_isA 4 = .ok (.ifCond .ne 5, 3) := by decide +kernel
theorem dX10_isA_7 : decode cX10_isA 7 = .ok (.iconst 0, 1) := by decide +kernel
theorem dX10_isA_8 : decode cX10_isA 8 = .ok (.ireturn, 1) := by decide +kernel
theorem dX10_isA_9 : decode cX10_isA 9 = .ok (.aload_n 0, 1) := by decide +kernel
theorem dX10_isA_10 : decode cX10_isA 10 = .ok (.bipush 38, 2) := by decide +kernel
theorem dX10_isA_12 : decode cX10_isA 12 = .ok (.invokevirtual 178, 3) := by decide +kernel
theorem dX10_isA_15 : decode cX10_isA 15 = .ok (.ifCond .eq 22, 3) := by decide +kernel
theorem dX10_isA_18 : decode cX10_isA 18 = .ok (.aload_n 0, 1) := by decide +kernel
theorem dX10_isA_19 : decode cX10_isA 19 = .ok (.invokevirtual 193, 3) := by decide +kernel
theorem dX10_isA_22 : decode cX10_isA 22 = .ok (.ifCond .ne 5, 3) := by decide +kernel
theorem dX10_isA_25 : decode cX10_isA 25 = .ok (.iconst 0, 1) := by decide +kernel
theorem dX10_isA_26 : decode cX10_isA 26 = .ok (.ireturn, 1) := by decide +kernel
theorem dX10_isA_27 : decode cX10_isA 27 = .ok (.aload_n 0, 1) := by decide +kernel
theorem dX10_isA_28 : decode cX10_isA 28 = .ok (.bipush 7, 2) := by decide +kernel
theorem dX10_isA_30 : decode cX10_isA 30 = .ok (.invokevirtual 168, 3) := by decide +kernel
theorem dX10_isA_33 : decode cX10_isA 33 = .ok (.pop, 1) := by decide +kernel
theorem dX10_isA_34 : decode cX10_isA 34 = .ok (.goto (-25), 3) := by decide +kernel
theorem dX10_isA_37 : decode cX10_isA 37 = .ok (.iconst 1, 1) := by decide +kernel
theorem dX10_isA_38 : decode cX10_isA 38 = .ok (.ireturn, 1) := by decide +kernel
theorem dX10_isE_0 : decode cX10_isE 0 = .ok (.aload_n 0, 1) := by decide +kernel
theorem dX10_isE_1 : decode cX10_isE 1 = .ok (.invokevirtual 196, 3) := by decide +kernel
theorem dX10_isE_4 : decode cX10_isE 4 = .ok (.ifCond .ne 5, 3) := by decide +kernel
theorem dX10_isE_7 : decode cX10_isE 7 = .ok (.iconst 0, 1) := by decide +kernel
theorem dX10_isE_8 : decode cX10_isE 8 = .ok (.ireturn, 1) := by decide +kernel
theorem dX10_isE_9 : decode cX10_isE 9 = .ok (.aload_n 0, 1) := by decide +kernel
theorem dX10_isE_10 : decode cX10_isE 10 = .ok (.bipush 124, 2) := by decide +kernel
theorem dX10_isE_12 : decode cX10_isE 12 = .ok (.invokevirtual 178, 3) := by decide +kernel
theorem dX10_isE_15 : decode cX10_isE 15 = .ok (.ifCond .eq 22, 3) := by decide +kernel
theorem dX10_isE_18 : decode cX10_isE 18 = .ok (.aload_n 0, 1) := by decide +kernel
theorem dX10_isE_19 : decode cX10_isE 19 = .ok (.invokevirtual 196, 3) := by decide +kernel
theorem dX10_isE_22 : decode cX10_isE 22 = .ok (.ifCond .ne 5, 3) := by decide +kernel
theorem dX10_isE_25 : decode cX10_isE 25 = .ok (.iconst 0, 1) := by decide +kernel
theorem dX10_isE_26 : decode cX10_isE 26 = .ok (.ireturn, 1) := by decide +kernel
theorem dX10_isE_27 : decode cX10_isE 27 = .ok (.aload_n 0, 1) := by decide +kernel
theorem dX10_isE_28 : decode cX10_isE 28 = .ok (.bipush 6, 2) := by decide +kernel
theorem dX10_isE_30 : decode cX10_isE 30 = .ok (.invokevirtual 168, 3) := by decide +kernel
theorem dX10_isE_33 : decode cX10_isE 33 = .ok (.pop, 1) := by decide +kernel
theorem dX10_isE_34 : decode cX10_isE 34 = .ok (.goto (-25), 3) := by decide +kernel
theorem dX10_isE_37 : decode cX10_isE 37 = .ok (.iconst 1, 1) := by decide +kernel
theorem dX10_isE_38 : decode cX10_isE 38 = .ok (.ireturn, 1) := by decide +kernel
theorem dX10_isLine_0 : decode cX10_isLine 0 = .ok (.aload_n 0, 1) := by decide +kernel
theorem dX10_isLine_1 : decode cX10_isLine 1 = .ok (.getfield 42, 3) := by decide +kernel
theorem dX10_isLine_4 : decode cX10_isLine 4 = .ok (.aload_n 0, 1) := by decide +kernel
theorem dX10_isLine_5 : decode cX10_isLine 5 = .ok (.getfield 199, 3) := by decide +kernel
theorem dX10_isLine_8 : decode cX10_isLine 8 = .ok (.aload_n 0, 1) := by decide +kernel
theorem dX10_isLine_9 : decode cX10_isLine 9 = .ok (.getfield 161, 3) := by decide +kernel
theorem dX10_isLine_12 : decode cX10_isLine 12 = .ok (.iastore, 1) := by decide +kernel
theorem dX10_isLine_13 : decode cX10_isLine 13 = .ok (.aload_n 0, 1) := by decide +kernel
theorem dX10_isLine_14 : decode cX10_isLine 14 = .ok (.invokevirtual 184, 3) := by decide +kernel
theorem dX10_isLine_17 : decode cX10_isLine 17 = .ok (.ifCond .ne 5, 3) := by decide +kernel
theorem dX10_isLine_20 : decode cX10_isLine 20 = .ok (.iconst 0, 1) := by decide +kernel
theorem dX10_isLine_21 : decode cX10_isLine 21 = .ok (.ireturn, 1) := by decide +kernel
theorem dX10_isLine_22 : decode cX10_isLine 22 = .ok (.aload_n 0, 1) := by decide +kernel
theorem dX10_isLine_23 : decode cX10_isLine 23 = .ok (.getfield 45, 3) := by decide +kernel
theorem dX10_isLine_26 : decode cX10_isLine 26 = .ok (.aload_n 0, 1) := by decide +kernel
theorem dX10_isLine_27 : decode cX10_isLine 27 = .ok (.getfield 199, 3) := by decide +kernel
theorem dX10_isLine_30 : decode cX10_isLine 30 = .ok (.aload_n 0, 1) := by decide +kernel
theorem dX10_isLine_31 : decode cX10_isLine 31 = .ok (.getfield 42, 3) := by decide +kernel
theorem dX10_isLine_34 : decode cX10_isLine 34 = .ok (.aload_n 0, 1) := by decide +kernel
theorem dX10_isLine_35 : decode cX10_isLine 35 = .ok (.getfield 199, 3) := by decide +kernel
theorem dX10_isLine_38 : decode cX10_isLine 38 = .ok (.iaload, 1) := by decide +kernel
theorem dX10_isLine_39 : decode cX10_isLine 39 = .ok (.iastore, 1) := by decide +kernel
theorem dX10_isLine_40 : decode cX10_isLine 40 = .ok (.aload_n 0, 1) := by decide +kernel
theorem dX10_isLine_41 : decode cX10_isLine 41 = .ok (.bipush 63, 2) := by decide +kernel
theorem dX10_isLine_43 : decode cX10_isLine 43 = .ok (.invokevirtual 178, 3) := by decide +kernel
theorem dX10_isLine_46 : decode cX10_isLine 46 = .ok (.ifCond .eq 25, 3) := by decide +kernel
theorem dX10_isLine_49 : decode cX10_isLine 49 = .ok (.aload_n 0, 1) := by decide +kernel
theorem dX10_isLine_50 : decode cX10_isLine 50 = .ok (.getfield 45, 3) := by decide +kernel
theorem dX10_isLine_53 : decode cX10_isLine 53 = .ok (.aload_n 0, 1) := by decide +kernel
theorem dX10_isLine_54 : decode cX10_isLine 54 = .ok (.getfield 199, 3) := by decide +kernel
theorem dX10_isLine_57 : decode cX10_isLine 57 = .ok (.aload_n 0, 1) := by decide +kernel
theorem dX10_isLine_58 : decode cX10_isLine 58 = .ok (.getfield 161, 3) := by decide +kernel
theorem dX10_isLine_61 : decode cX10_isLine 61 = .ok (.iastore, 1) := by decide +kernel
theorem dX10_isLine_62 : decode cX10_isLine 62 = .ok (.aload_n 0, 1) := by decide +kernel
theorem dX10_isLine_63 : decode cX10_isLine 63 = .ok (.invokevirtual 184, 3) := by decide +kernel
theorem dX10_isLine_66 : decode cX10_isLine 66 = .ok (.ifCond .ne 5, 3) := by decide +kernel
theorem dX10_isLine_69 : decode cX10_isLine 69 = .ok (.iconst 0, 1) := by decide +kernel
theorem dX10_isLine_70 : decode cX10_isLine 70 = .ok (.ireturn, 1) := by decide +kernel
theorem dX10_isLine_71 : decode cX10_isLine 71 = .ok (.aload_n 0, 1) := by decide +kernel
theorem dX10_isLine_72 : decode cX10_isLine 72 = .ok (.getfield 48, 3) := by decide +kernel
theorem dX10_isLine_75 : decode cX10_isLine 75 = .ok (.aload_n 0, 1) := by decide +kernel
theorem dX10_isLine_76 : decode cX10_isLine 76 = .ok (.dup, 1) := by decide +kernel
theorem dX10_isLine_77 : decode cX10_isLine 77 = .ok (.getfield 199, 3) := by decide +kernel
theorem dX10_isLine_80 : decode cX10_isLine 80 = .ok (.dup_x1, 1) := by decide +kernel
theorem dX10_isLine_81 : decode cX10_isLine 81 = .ok (.iconst 1, 1) := by decide +kernel
theorem dX10_isLine_82 : decode cX10_isLine 82 = .ok (.iadd, 1) := by decide +kernel
theorem dX10_isLine_83 : decode cX10_isLine 83 = .ok (.putfield 199, 3) := by decide +kernel
theorem dX10_isLine_86 : decode cX10_isLine 86 = .ok (.aload_n 0, 1) := by decide +kernel
theorem dX10_isLine_87 : decode cX10_isLine 87 = .ok (.getfield 161, 3) := by decide +kernel
theorem dX10_isLine_90 : decode cX10_isLine 90 = .ok (.iastore, 1) := by decide +kernel
theorem dX10_isLine_91 : decode cX10_isLine 91 = .ok (.iconst 1, 1) := by decide +kernel
theorem dX10_isLine_92 : decode cX10_isLine 92 = .ok (.ireturn, 1) := by decide +kernel
theorem dX10_law_0 : decode cX10_law 0 = .ok (.aload_n 0, 1) := by decide +kernel
theorem dX10_law_1 : decode cX10_law 1 = .ok (.iconst 0, 1) := by decide +kernel
theorem dX10_law_2 : decode cX10_law 2 = .ok (.putfield 154, 3) := by decide +kernel
theorem dX10_law_5 : decode cX10_law 5 = .ok (.aload_n 0, 1) := by decide +kernel
theorem dX10_law_6 : decode cX10_law 6 = .ok (.iconst 0, 1) := by decide +kernel
theorem dX10_law_7 : decode cX10_law 7 = .ok (.putfield 175, 3) := by decide +kernel
theorem dX10_law_10 : decode cX10_law 10 = .ok (.aload_n 0, 1) := by decide +kernel
theorem dX10_law_11 : decode cX10_law 11 = .ok (.iconst 0, 1) := by decide +kernel
theorem dX10_law_12 : decode cX10_law 12 = .ok (.putfield 161, 3) := by decide +kernel
theorem dX10_law_15 : decode cX10_law 15 = .ok (.aload_n 0, 1) := by decide +kernel
theorem dX10_law_16 : decode cX10_law 16 = .ok (.iconst 0, 1) := by decide +kernel
theorem dX10_law_17 : decode cX10_law 17 = .ok (.putfield 199, 3) := by decide +kernel
theorem dX10_law_20 : decode cX10_law 20 = .ok (.aload_n 0, 1) := by decide +kernel
theorem dX10_law_21 : decode cX10_law 21 = .ok (.invokevirtual 202, 3) := by decide +kernel
theorem dX10_law_24 : decode cX10_law 24 = .ok (.istore_n 1, 1) := by decide +kernel
theorem dX10_law_25 : decode cX10_law 25 = .ok (.iload_n 1, 1) := by decide +kernel
theorem dX10_law_26 : decode cX10_law 26 = .ok (.ifCond .eq 20, 3) := by decide +kernel
theorem dX10_law_29 : decode cX10_law 29 = .ok (.aload_n 0, 1) := by decide +kernel
theorem dX10_law_30 : decode cX10_law 30 = .ok (.bipush 59, 2) := by decide +kernel
theorem dX10_law_32 : decode cX10_law 32 = .ok (.invokevirtual 178, 3) := by decide +kernel
theorem dX10_law_35 : decode cX10_law 35 = .ok (.ifCond .eq 11, 3) := by decide +kernel
theorem dX10_law_38 : decode cX10_law 38 = .ok (.aload_n 0, 1) := by decide +kernel
theorem dX10_law_39 : decode cX10_law 39 = .ok (.invokevirtual 202, 3) := by decide +kernel
theorem dX10_law_42 : decode cX10_law 42 = .ok (.istore_n 1, 1) := by decide +kernel
theorem dX10_law_43 : decode cX10_law 43 = .ok (.goto (-18), 3) := by decide +kernel
theorem dX10_law_46 : decode cX10_law 46 = .ok (.iload_n 1, 1) := by decide +kernel
theorem dX10_law_47 : decode cX10_law 47 = .ok (.ifCond .eq 18, 3) := by decide +kernel
theorem dX10_law_50 : decode cX10_law 50 = .ok (.aload_n 0, 1) := by decide +kernel
theorem dX10_law_51 : decode cX10_law 51 = .ok (.getfield 154, 3) := by decide +kernel
theorem dX10_law_54 : decode cX10_law 54 = .ok (.aload_n 0, 1) := by decide +kernel
theorem dX10_law_55 : decode cX10_law 55 = .ok (.getfield 151, 3) := by decide +kernel
theorem dX10_law_58 : decode cX10_law 58 = .ok (.if_icmp .ne 7, 3) := by decide +kernel
theorem dX10_law_61 : decode cX10_law 61 = .ok (.iconst 1, 1) := by decide +kernel
theorem dX10_law_62 : decode cX10_law 62 = .ok (.goto 4, 3) := by decide +kernel
theorem dX10_law_65 : decode cX10_law 65 = .ok (.iconst 0, 1) := by decide +kernel
theorem dX10_law_66 : decode cX10_law 66 = .ok (.istore_n 2, 1) := by decide +kernel
theorem dX10_law_67 : decode cX10_law 67 = .ok (.aload_n 0, 1) := by decide +kernel
theorem dX10_law_68 : decode cX10_law 68 = .ok (.iconst 0, 1) := by decide +kernel
theorem dX10_law_69 : decode cX10_law 69 = .ok (.putfield 151, 3) := by decide +kernel
theorem dX10_law_72 : decode cX10_law 72 = .ok (.iload_n 2, 1) := by decide +kernel
theorem dX10_law_73 : decode cX10_law 73 = .ok (.ifCond .ne 11, 3) := by decide +kernel
theorem dX10_law_76 : decode cX10_law 76 = .ok (.bipush (-100), 2) := by decide +kernel
theorem dX10_law_78 : decode cX10_law 78 = .ok (.aload_n 0, 1) := by decide +kernel
theorem dX10_law_79 : decode cX10_law 79 = .ok (.getfield 154, 3) := by decide +kernel
theorem dX10_law_82 : decode cX10_law 82 = .ok (.isub, 1) := by decide +kernel
theorem dX10_law_83 : decode cX10_law 83 = .ok (.ireturn, 1) := by decide +kernel
theorem dX10_law_84 : decode cX10_law 84 = .ok (.aload_n 0, 1) := by decide +kernel
theorem dX10_law_85 : decode cX10_law 85 = .ok (.iconst 1, 1) := by decide +kernel
theorem dX10_law_86 : decode cX10_law 86 = .ok (.putfield 205, 3) := by decide +kernel
theorem dX10_law_89 : decode cX10_law 89 = .ok (.aload_n 0, 1) := by decide +kernel
theorem dX10_law_90 : decode cX10_law 90 = .ok (.aload_n 0, 1) := by decide +kernel
theorem dX10_law_91 : decode cX10_law 91 = .ok (.getfield 199, 3) := by decide +kernel
theorem dX10_law_94 : decode cX10_law 94 = .ok (.putfield 209, 3) := by decide +kernel
theorem dX10_law_97 : decode cX10_law 97 = .ok (.iconst 0, 1) := by decide +kernel
theorem dX10_law_98 : decode cX10_law 98 = .ok (.istore_n 3, 1) := by decide +kernel
theorem dX10_law_99 : decode cX10_law 99 = .ok (.iload_n 3, 1) := by decide +kernel
theorem dX10_law_100 : decode cX10_law 100 = .ok (.aload_n 0, 1) := by decide +kernel
theorem dX10_law_101 : decode cX10_law 101 = .ok (.getfield 209, 3) := by decide +kernel
theorem dX10_law_104 : decode cX10_law 104 = .ok (.if_icmp .ge 45, 3) := by decide +kernel
theorem dX10_law_107 : decode cX10_law 107 = .ok (.aload_n 0, 1) := by decide +kernel
theorem dX10_law_108 : decode cX10_law 108 = .ok (.getfield 30, 3) := by decide +kernel
theorem dX10_law_111 : decode cX10_law 111 = .ok (.iload_n 3, 1) := by decide +kernel
theorem dX10_law_112 : decode cX10_law 112 = .ok (.aload_n 0, 1) := by decide +kernel
theorem dX10_law_113 : decode cX10_law 113 = .ok (.getfield 42, 3) := by decide +kernel
theorem dX10_law_116 : decode cX10_law 116 = .ok (.iload_n 3, 1) := by decide +kernel
theorem dX10_law_117 : decode cX10_law 117 = .ok (.iaload, 1) := by decide +kernel
theorem dX10_law_118 : decode cX10_law 118 = .ok (.iastore, 1) := by decide +kernel
theorem dX10_law_119 : decode cX10_law 119 = .ok (.aload_n 0, 1) := by decide +kernel
theorem dX10_law_120 : decode cX10_law 120 = .ok (.getfield 33, 3) := by decide +kernel
theorem dX10_law_123 : decode cX10_law 123 = .ok (.iload_n 3, 1) := by decide +kernel
theorem dX10_law_124 : decode cX10_law 124 = .ok (.aload_n 0, 1) := by decide +kernel
theorem dX10_law_125 : decode cX10_law 125 = .ok (.getfield 45, 3) := by decide +kernel
theorem dX10_law_128 : decode cX10_law 128 = .ok (.iload_n 3, 1) := by decide +kernel
theorem dX10_law_129 : decode cX10_law 129 = .ok (.iaload, 1) := by decide +kernel
theorem dX10_law_130 : decode cX10_law 130 = .ok (.iastore, 1) := by decide +kernel
theorem dX10_law_131 : decode cX10_law 131 = .ok (.aload_n 0, 1) := by decide +kernel
theorem dX10_law_132 : decode cX10_law 132 = .ok (.getfield 36, 3) := by decide +kernel
theorem dX10_law_135 : decode cX10_law 135 = .ok (.iload_n 3, 1) := by decide +kernel
theorem dX10_law_136 : decode cX10_law 136 = .ok (.aload_n 0, 1) := by decide +kernel
theorem dX10_law_137 : decode cX10_law 137 = .ok (.getfield 48, 3) := by decide +kernel
theorem dX10_law_140 : decode cX10_law 140 = .ok (.iload_n 3, 1) := by decide +kernel
theorem dX10_law_141 : decode cX10_law 141 = .ok (.iaload, 1) := by decide +kernel
theorem dX10_law_142 : decode cX10_law 142 = .ok (.iastore, 1) := by decide +kernel
theorem dX10_law_143 : decode cX10_law 143 = .ok (.iinc 3 1, 3) := by decide +kernel
theorem dX10_law_146 : decode cX10_law 146 = .ok (.goto (-47), 3) := by decide +kernel
theorem dX10_law_149 : decode cX10_law 149 = .ok (.iconst 0, 1) := by decide +kernel
theorem dX10_law_150 : decode cX10_law 150 = .ok (.istore_n 3, 1) := by decide +kernel
theorem dX10_law_151 : decode cX10_law 151 = .ok (.iload_n 3, 1) := by decide +kernel
theorem dX10_law_152 : decode cX10_law 152 = .ok (.aload_n 0, 1) := by decide +kernel
theorem dX10_law_153 : decode cX10_law 153 = .ok (.getfield 161, 3) := by decide +kernel
theorem dX10_law_156 : decode cX10_law 156 = .ok (.if_icmp .ge 21, 3) := by decide +kernel
theorem dX10_law_159 : decode cX10_law 159 = .ok (.aload_n 0, 1) := by decide +kernel
theorem dX10_law_160 : decode cX10_law 160 = .ok (.getfield 39, 3) := by decide +kernel
theorem dX10_law_163 : decode cX10_law 163 = .ok (.iload_n 3, 1) := by decide +kernel
theorem dX10_law_164 : decode cX10_law 164 = .ok (.aload_n 0, 1) := by decide +kernel
theorem dX10_law_165 : decode cX10_law 165 = .ok (.getfield 51, 3) := by decide +kernel
theorem dX10_law_168 : decode cX10_law 168 = .ok (.iload_n 3, 1) := by decide +kernel
theorem dX10_law_169 : decode cX10_law 169 = .ok (.iaload, 1) := by decide +kernel
theorem dX10_law_170 : decode cX10_law 170 = .ok (.iastore, 1) := by decide +kernel
theorem dX10_law_171 : decode cX10_law 171 = .ok (.iinc 3 1, 3) := by decide +kernel
theorem dX10_law_174 : decode cX10_law 174 = .ok (.goto (-23), 3) := by decide +kernel
theorem dX10_law_177 : decode cX10_law 177 = .ok (.iconst 1, 1) := by decide +kernel
theorem dX10_law_178 : decode cX10_law 178 = .ok (.ireturn, 1) := by decide +kernel
theorem dX10_both_0 : decode cX10_both 0 = .ok (.iload_n 0, 1) := by decide +kernel
theorem dX10_both_1 : decode cX10_both 1 = .ok (.tableswitch 136 6 14 #[51, 65, 79, 90, 101, 112, 116, 120, 124], 51) := by decide +kernel
theorem dX10_both_52 : decode cX10_both 52 = .ok (.iload_n 1, 1) := by decide +kernel
theorem dX10_both_53 : decode cX10_both 53 = .ok (.ifCond .ne 7, 3) := by decide +kernel
theorem dX10_both_56 : decode cX10_both 56 = .ok (.iload_n 2, 1) := by decide +kernel
theorem dX10_both_57 : decode cX10_both 57 = .ok (.ifCond .eq 7, 3) := by decide +kernel
theorem dX10_both_60 : decode cX10_both 60 = .ok (.iconst 1, 1) := by decide +kernel
theorem dX10_both_61 : decode cX10_both 61 = .ok (.goto 4, 3) := by decide +kernel
theorem dX10_both_64 : decode cX10_both 64 = .ok (.iconst 0, 1) := by decide +kernel
theorem dX10_both_65 : decode cX10_both 65 = .ok (.ireturn, 1) := by decide +kernel
theorem dX10_both_66 : decode cX10_both 66 = .ok (.iload_n 1, 1) := by decide +kernel
theorem dX10_both_67 : decode cX10_both 67 = .ok (.ifCond .eq 11, 3) := by decide +kernel
theorem dX10_both_70 : decode cX10_both 70 = .ok (.iload_n 2, 1) := by decide +kernel
theorem dX10_both_71 : decode cX10_both 71 = .ok (.ifCond .eq 7, 3) := by decide +kernel
theorem dX10_both_74 : decode cX10_both 74 = .ok (.iconst 1, 1) := by decide +kernel
theorem dX10_both_75 : decode cX10_both 75 = .ok (.goto 4, 3) := by decide +kernel
theorem dX10_both_78 : decode cX10_both 78 = .ok (.iconst 0, 1) := by decide +kernel
theorem dX10_both_79 : decode cX10_both 79 = .ok (.ireturn, 1) := by decide +kernel
theorem dX10_both_80 : decode cX10_both 80 = .ok (.iload_n 1, 1) := by decide +kernel
theorem dX10_both_81 : decode cX10_both 81 = .ok (.iload_n 2, 1) := by decide +kernel
theorem dX10_both_82 : decode cX10_both 82 = .ok (.if_icmp .ge 7, 3) := by decide +kernel
theorem dX10_both_85 : decode cX10_both 85 = .ok (.iconst 1, 1) := by decide +kernel
theorem dX10_both_86 : decode cX10_both 86 = .ok (.goto 4, 3) := by decide +kernel
theorem dX10_both_89 : decode cX10_both 89 = .ok (.iconst 0, 1) := by decide +kernel
theorem dX10_both_90 : decode cX10_both 90 = .ok (.ireturn, 1) := by decide +kernel
theorem dX10_both_91 : decode cX10_both 91 = .ok (.iload_n 1, 1) := by decide +kernel
theorem dX10_both_92 : decode cX10_both 92 = .ok (.iload_n 2, 1) := by decide +kernel
theorem dX10_both_93 : decode cX10_both 93 = .ok (.if_icmp .ne 7, 3) := by decide +kernel
theorem dX10_both_96 : decode cX10_both 96 = .ok (.iconst 1, 1) := by decide +kernel
theorem dX10_both_97 : decode cX10_both 97 = .ok (.goto 4, 3) := by decide +kernel
theorem dX10_both_100 : decode cX10_both 100 = .ok (.iconst 0, 1) := by decide +kernel
theorem dX10_both_101 : decode cX10_both 101 = .ok (.ireturn, 1) := by decide +kernel
theorem dX10_both_102 : decode cX10_both 102 = .ok (.iload_n 1, 1) := by decide +kernel
theorem dX10_both_103 : decode cX10_both 103 = .ok (.iload_n 2, 1) := by decide +kernel
theorem dX10_both_104 : decode cX10_both 104 = .ok (.if_icmp .le 7, 3) := by decide +kernel
theorem dX10_both_107 : decode cX10_both 107 = .ok (.iconst 1, 1) := by decide +kernel
theorem dX10_both_108 : decode cX10_both 108 = .ok (.goto 4, 3) := by decide +kernel
theorem dX10_both_111 : decode cX10_both 111 = .ok (.iconst 0, 1) := by decide +kernel
theorem dX10_both_112 : decode cX10_both 112 = .ok (.ireturn, 1) := by decide +kernel
theorem dX10_both_113 : decode cX10_both 113 = .ok (.iload_n 1, 1) := by decide +kernel
theorem dX10_both_114 : decode cX10_both 114 = .ok (.iload_n 2, 1) := by decide +kernel
theorem dX10_both_115 : decode cX10_both 115 = .ok (.iadd, 1) := by decide +kernel
theorem dX10_both_116 : decode cX10_both 116 = .ok (.ireturn, 1) := by decide +kernel
theorem dX10_both_117 : decode cX10_both 117 = .ok (.iload_n 1, 1) := by decide +kernel
theorem dX10_both_118 : decode cX10_both 118 = .ok (.iload_n 2, 1) := by decide +kernel
theorem dX10_both_119 : decode cX10_both 119 = .ok (.isub, 1) := by decide +kernel
theorem dX10_both_120 : decode cX10_both 120 = .ok (.ireturn, 1) := by decide +kernel
theorem dX10_both_121 : decode cX10_both 121 = .ok (.iload_n 1, 1) := by decide +kernel
theorem dX10_both_122 : decode cX10_both 122 = .ok (.iload_n 2, 1) := by decide +kernel
theorem dX10_both_123 : decode cX10_both 123 = .ok (.imul, 1) := by decide +kernel
theorem dX10_both_124 : decode cX10_both 124 = .ok (.ireturn, 1) := by decide +kernel
theorem dX10_both_125 : decode cX10_both 125 = .ok (.iload_n 2, 1) := by decide +kernel
theorem dX10_both_126 : decode cX10_both 126 = .ok (.ifCond .ne 7, 3) := by decide +kernel
theorem dX10_both_129 : decode cX10_both 129 = .ok (.iconst 0, 1) := by decide +kernel
theorem dX10_both_130 : decode cX10_both 130 = .ok (.goto 6, 3) := by decide +kernel
theorem dX10_both_133 : decode cX10_both 133 = .ok (.iload_n 1, 1) := by decide +kernel
theorem dX10_both_134 : decode cX10_both 134 = .ok (.iload_n 2, 1) := by decide +kernel
theorem dX10_both_135 : decode cX10_both 135 = .ok (.idiv, 1) := by decide +kernel
theorem dX10_both_136 : decode cX10_both 136 = .ok (.ireturn, 1) := by decide +kernel
theorem dX10_both_137 : decode cX10_both 137 = .ok (.iload_n 2, 1) := by decide +kernel
theorem dX10_both_138 : decode cX10_both 138 = .ok (.ifCond .ne 7, 3) := by decide +kernel
theorem dX10_both_141 : decode cX10_both 141 = .ok (.iconst 0, 1) := by decide +kernel
theorem dX10_both_142 : decode cX10_both 142 = .ok (.goto 6, 3) := by decide +kernel
theorem dX10_both_145 : decode cX10_both 145 = .ok (.iload_n 1, 1) := by decide +kernel
theorem dX10_both_146 : decode cX10_both 146 = .ok (.iload_n 2, 1) := by decide +kernel
theorem dX10_both_147 : decode cX10_both 147 = .ok (.irem, 1) := by decide +kernel
theorem dX10_both_148 : decode cX10_both 148 = .ok (.ireturn, 1) := by decide +kernel
theorem dX10_worked_0 : decode cX10_worked 0 = .ok (.iconst 0, 1) := by decide +kernel
theorem dX10_worked_1 : decode cX10_worked 1 = .ok (.istore_n 3, 1) := by decide +kernel
theorem dX10_worked_2 : decode cX10_worked 2 = .ok (.iload_n 1, 1) := by decide +kernel
theorem dX10_worked_3 : decode cX10_worked 3 = .ok (.istore 4, 2) := by decide +kernel
theorem dX10_worked_5 : decode cX10_worked 5 = .ok (.iload 4, 2) := by decide +kernel
theorem dX10_worked_7 : decode cX10_worked 7 = .ok (.iload_n 2, 1) := by decide +kernel
theorem dX10_worked_8 : decode cX10_worked 8 = .ok (.if_icmp .ge 155, 3) := by decide +kernel
theorem dX10_worked_11 : decode cX10_worked 11 = .ok (.aload_n 0, 1) := by decide +kernel
theorem dX10_worked_12 : decode cX10_worked 12 = .ok (.getfield 39, 3) := by decide +kernel
theorem dX10_worked_15 : decode cX10_worked 15 = .ok (.iload 4, 2) := by decide +kernel
theorem dX10_worked_17 : decode cX10_worked 17 = .ok (.iaload, 1) := by decide +kernel
theorem dX10_worked_18 : decode cX10_worked 18 = .ok (.istore 5, 2) := by decide +kernel
theorem dX10_worked_20 : decode cX10_worked 20 = .ok (.iload 5, 2) := by decide +kernel
theorem dX10_worked_22 : decode cX10_worked 22 = .ok (.bipush 18, 2) := by decide +kernel
theorem dX10_worked_24 : decode cX10_worked 24 = .ok (.if_icmp .ge 9, 3) := by decide +kernel
theorem dX10_worked_27 : decode cX10_worked 27 = .ok (.iload 5, 2) := by decide +kernel
theorem dX10_worked_29 : decode cX10_worked 29 = .ok (.iconst 5, 1) := by decide +kernel
theorem dX10_worked_30 : decode cX10_worked 30 = .ok (.if_icmp .gt 37, 3) := by decide +kernel
theorem dX10_worked_33 : decode cX10_worked 33 = .ok (.aload_n 0, 1) := by decide +kernel
theorem dX10_worked_34 : decode cX10_worked 34 = .ok (.getfield 54, 3) := by decide +kernel
theorem dX10_worked_37 : decode cX10_worked 37 = .ok (.iload_n 3, 1) := by decide +kernel
theorem dX10_worked_38 : decode cX10_worked 38 = .ok (.iinc 3 1, 3) := by decide +kernel
theorem dX10_worked_41 : decode cX10_worked 41 = .ok (.iload 5, 2) := by decide +kernel
theorem dX10_worked_43 : decode cX10_worked 43 = .ok (.bipush 18, 2) := by decide +kernel
theorem dX10_worked_45 : decode cX10_worked 45 = .ok (.if_icmp .lt 11, 3) := by decide +kernel
theorem dX10_worked_48 : decode cX10_worked 48 = .ok (.iload 5, 2) := by decide +kernel
theorem dX10_worked_50 : decode cX10_worked 50 = .ok (.bipush 18, 2) := by decide +kernel
theorem dX10_worked_52 : decode cX10_worked 52 = .ok (.isub, 1) := by decide +kernel
theorem dX10_worked_53 : decode cX10_worked 53 = .ok (.goto 10, 3) := by decide +kernel
theorem dX10_worked_56 : decode cX10_worked 56 = .ok (.aload_n 0, 1) := by decide +kernel
theorem dX10_worked_57 : decode cX10_worked 57 = .ok (.getfield 57, 3) := by decide +kernel
theorem dX10_worked_60 : decode cX10_worked 60 = .ok (.iload 5, 2) := by decide +kernel
theorem dX10_worked_62 : decode cX10_worked 62 = .ok (.iaload, 1) := by decide +kernel
theorem dX10_worked_63 : decode cX10_worked 63 = .ok (.iastore, 1) := by decide +kernel
theorem dX10_worked_64 : decode cX10_worked 64 = .ok (.goto 93, 3) := by decide +kernel
theorem dX10_worked_67 : decode cX10_worked 67 = .ok (.iload 5, 2) := by decide +kernel
theorem dX10_worked_69 : decode cX10_worked 69 = .ok (.bipush 16, 2) := by decide +kernel
theorem dX10_worked_71 : decode cX10_worked 71 = .ok (.if_icmp .eq 10, 3) := by decide +kernel
theorem dX10_worked_74 : decode cX10_worked 74 = .ok (.iload 5, 2) := by decide +kernel
theorem dX10_worked_76 : decode cX10_worked 76 = .ok (.bipush 17, 2) := by decide +kernel
theorem dX10_worked_78 : decode cX10_worked 78 = .ok (.if_icmp .ne 49, 3) := by decide +kernel
theorem dX10_worked_81 : decode cX10_worked 81 = .ok (.aload_n 0, 1) := by decide +kernel
theorem dX10_worked_82 : decode cX10_worked 82 = .ok (.getfield 54, 3) := by decide +kernel
theorem dX10_worked_85 : decode cX10_worked 85 = .ok (.iload_n 3, 1) := by decide +kernel
theorem dX10_worked_86 : decode cX10_worked 86 = .ok (.iconst 1, 1) := by decide +kernel
theorem dX10_worked_87 : decode cX10_worked 87 = .ok (.isub, 1) := by decide +kernel
theorem dX10_worked_88 : decode cX10_worked 88 = .ok (.iload 5, 2) := by decide +kernel
theorem dX10_worked_90 : decode cX10_worked 90 = .ok (.bipush 17, 2) := by decide +kernel
theorem dX10_worked_92 : decode cX10_worked 92 = .ok (.if_icmp .ne 15, 3) := by decide +kernel
theorem dX10_worked_95 : decode cX10_worked 95 = .ok (.aload_n 0, 1) := by decide +kernel
theorem dX10_worked_96 : decode cX10_worked 96 = .ok (.getfield 54, 3) := by decide +kernel
theorem dX10_worked_99 : decode cX10_worked 99 = .ok (.iload_n 3, 1) := by decide +kernel
theorem dX10_worked_100 : decode cX10_worked 100 = .ok (.iconst 1, 1) := by decide +kernel
theorem dX10_worked_101 : decode cX10_worked 101 = .ok (.isub, 1) := by decide +kernel
theorem dX10_worked_102 : decode cX10_worked 102 = .ok (.iaload, 1) := by decide +kernel
theorem dX10_worked_103 : decode cX10_worked 103 = .ok (.ineg, 1) := by decide +kernel
theorem dX10_worked_104 : decode cX10_worked 104 = .ok (.goto 19, 3) := by decide +kernel
theorem dX10_worked_107 : decode cX10_worked 107 = .ok (.aload_n 0, 1) := by decide +kernel
theorem dX10_worked_108 : decode cX10_worked 108 = .ok (.getfield 54, 3) := by decide +kernel
theorem dX10_worked_111 : decode cX10_worked 111 = .ok (.iload_n 3, 1) := by decide +kernel
theorem dX10_worked_112 : decode cX10_worked 112 = .ok (.iconst 1, 1) := by decide +kernel
theorem dX10_worked_113 : decode cX10_worked 113 = .ok (.isub, 1) := by decide +kernel
theorem dX10_worked_114 : decode cX10_worked 114 = .ok (.iaload, 1) := by decide +kernel
theorem dX10_worked_115 : decode cX10_worked 115 = .ok (.ifCond .ne 7, 3) := by decide +kernel
theorem dX10_worked_118 : decode cX10_worked 118 = .ok (.iconst 1, 1) := by decide +kernel
theorem dX10_worked_119 : decode cX10_worked 119 = .ok (.goto 4, 3) := by decide +kernel
theorem dX10_worked_122 : decode cX10_worked 122 = .ok (.iconst 0, 1) := by decide +kernel
theorem dX10_worked_123 : decode cX10_worked 123 = .ok (.iastore, 1) := by decide +kernel
theorem dX10_worked_124 : decode cX10_worked 124 = .ok (.goto 33, 3) := by decide +kernel
theorem dX10_worked_127 : decode cX10_worked 127 = .ok (.iinc 3 (-1), 3) := by decide +kernel
theorem dX10_worked_130 : decode cX10_worked 130 = .ok (.aload_n 0, 1) := by decide +kernel
theorem dX10_worked_131 : decode cX10_worked 131 = .ok (.getfield 54, 3) := by decide +kernel
theorem dX10_worked_134 : decode cX10_worked 134 = .ok (.iload_n 3, 1) := by decide +kernel
theorem dX10_worked_135 : decode cX10_worked 135 = .ok (.iconst 1, 1) := by decide +kernel
theorem dX10_worked_136 : decode cX10_worked 136 = .ok (.isub, 1) := by decide +kernel
theorem dX10_worked_137 : decode cX10_worked 137 = .ok (.iload 5, 2) := by decide +kernel
theorem dX10_worked_139 : decode cX10_worked 139 = .ok (.aload_n 0, 1) := by decide +kernel
theorem dX10_worked_140 : decode cX10_worked 140 = .ok (.getfield 54, 3) := by decide +kernel
theorem dX10_worked_143 : decode cX10_worked 143 = .ok (.iload_n 3, 1) := by decide +kernel
theorem dX10_worked_144 : decode cX10_worked 144 = .ok (.iconst 1, 1) := by decide +kernel
theorem dX10_worked_145 : decode cX10_worked 145 = .ok (.isub, 1) := by decide +kernel
theorem dX10_worked_146 : decode cX10_worked 146 = .ok (.iaload, 1) := by decide +kernel
theorem dX10_worked_147 : decode cX10_worked 147 = .ok (.aload_n 0, 1) := by decide +kernel
theorem dX10_worked_148 : decode cX10_worked 148 = .ok (.getfield 54, 3) := by decide +kernel
theorem dX10_worked_151 : decode cX10_worked 151 = .ok (.iload_n 3, 1) := by decide +kernel
theorem dX10_worked_152 : decode cX10_worked 152 = .ok (.iaload, 1) := by decide +kernel
theorem dX10_worked_153 : decode cX10_worked 153 = .ok (.invokestatic 212, 3) := by decide +kernel
theorem dX10_worked_156 : decode cX10_worked 156 = .ok (.iastore, 1) := by decide +kernel
theorem dX10_worked_157 : decode cX10_worked 157 = .ok (.iinc 4 1, 3) := by decide +kernel
theorem dX10_worked_160 : decode cX10_worked 160 = .ok (.goto (-155), 3) := by decide +kernel
theorem dX10_worked_163 : decode cX10_worked 163 = .ok (.aload_n 0, 1) := by decide +kernel
theorem dX10_worked_164 : decode cX10_worked 164 = .ok (.getfield 54, 3) := by decide +kernel
theorem dX10_worked_167 : decode cX10_worked 167 = .ok (.iconst 0, 1) := by decide +kernel
theorem dX10_worked_168 : decode cX10_worked 168 = .ok (.iaload, 1) := by decide +kernel
theorem dX10_worked_169 : decode cX10_worked 169 = .ok (.ireturn, 1) := by decide +kernel
theorem dX10_beside_0 : decode cX10_beside 0 = .ok (.iload_n 1, 1) := by decide +kernel
theorem dX10_beside_1 : decode cX10_beside 1 = .ok (.tableswitch 75 0 2 #[27, 42, 58], 27) := by decide +kernel
theorem dX10_beside_28 : decode cX10_beside 28 = .ok (.iload_n 0, 1) := by decide +kernel
theorem dX10_beside_29 : decode cX10_beside 29 = .ok (.bipush 6, 2) := by decide +kernel
theorem dX10_beside_31 : decode cX10_beside 31 = .ok (.if_icmp .ge 7, 3) := by decide +kernel
theorem dX10_beside_34 : decode cX10_beside 34 = .ok (.iconst (-1), 1) := by decide +kernel
theorem dX10_beside_35 : decode cX10_beside 35 = .ok (.goto 7, 3) := by decide +kernel
theorem dX10_beside_38 : decode cX10_beside 38 = .ok (.iload_n 0, 1) := by decide +kernel
theorem dX10_beside_39 : decode cX10_beside 39 = .ok (.bipush 6, 2) := by decide +kernel
theorem dX10_beside_41 : decode cX10_beside 41 = .ok (.isub, 1) := by decide +kernel
theorem dX10_beside_42 : decode cX10_beside 42 = .ok (.ireturn, 1) := by decide +kernel
theorem dX10_beside_43 : decode cX10_beside 43 = .ok (.iload_n 0, 1) := by decide +kernel
theorem dX10_beside_44 : decode cX10_beside 44 = .ok (.bipush 6, 2) := by decide +kernel
theorem dX10_beside_46 : decode cX10_beside 46 = .ok (.irem, 1) := by decide +kernel
