theorem dX10_walk_40 : decode cX10_walk 40 = .ok (.bipush 100, 2) := by decide +kernel
theorem dX10_walk_42 : decode cX10_walk 42 = .ok (.idiv, 1) := by decide +kernel
theorem dX10_walk_43 : decode cX10_walk 43 = .ok (.iload_n 3, 1) := by decide +kernel
theorem dX10_walk_44 : decode cX10_walk 44 = .ok (.invokevirtual 304, 3) := by decide +kernel
theorem dX10_walk_47 : decode cX10_walk 47 = .ok (.aload_n 0, 1) := by decide +kernel
theorem dX10_walk_48 : decode cX10_walk 48 = .ok (.getfield 97, 3) := by decide +kernel
theorem dX10_walk_51 : decode cX10_walk 51 = .ok (.iload_n 1, 1) := by decide +kernel
theorem dX10_walk_52 : decode cX10_walk 52 = .ok (.bipush 100, 2) := by decide +kernel
theorem dX10_walk_54 : decode cX10_walk 54 = .ok (.irem, 1) := by decide +kernel
theorem dX10_walk_55 : decode cX10_walk 55 = .ok (.iaload, 1) := by decide +kernel
theorem dX10_walk_56 : decode cX10_walk 56 = .ok (.sipush 999, 3) := by decide +kernel
theorem dX10_walk_59 : decode cX10_walk 59 = .ok (.if_icmp .ne 18, 3) := by decide +kernel
theorem dX10_walk_62 : decode cX10_walk 62 = .ok (.iinc 3 (-1), 3) := by decide +kernel
theorem dX10_walk_65 : decode cX10_walk 65 = .ok (.aload_n 0, 1) := by decide +kernel
theorem dX10_walk_66 : decode cX10_walk 66 = .ok (.iload_n 1, 1) := by decide +kernel
theorem dX10_walk_67 : decode cX10_walk 67 = .ok (.bipush 100, 2) := by decide +kernel
theorem dX10_walk_69 : decode cX10_walk 69 = .ok (.idiv, 1) := by decide +kernel
theorem dX10_walk_70 : decode cX10_walk 70 = .ok (.iload_n 3, 1) := by decide +kernel
theorem dX10_walk_71 : decode cX10_walk 71 = .ok (.invokevirtual 304, 3) := by decide +kernel
theorem dX10_walk_74 : decode cX10_walk 74 = .ok (.goto (-27), 3) := by decide +kernel
theorem dX10_walk_77 : decode cX10_walk 77 = .ok (.iload_n 2, 1) := by decide +kernel
theorem dX10_walk_78 : decode cX10_walk 78 = .ok (.ifCond .ne 7, 3) := by decide +kernel
theorem dX10_walk_81 : decode cX10_walk 81 = .ok (.iload_n 3, 1) := by decide +kernel
theorem dX10_walk_82 : decode cX10_walk 82 = .ok (.goto 12, 3) := by decide +kernel
theorem dX10_walk_85 : decode cX10_walk 85 = .ok (.aload_n 0, 1) := by decide +kernel
theorem dX10_walk_86 : decode cX10_walk 86 = .ok (.getfield 97, 3) := by decide +kernel
theorem dX10_walk_89 : decode cX10_walk 89 = .ok (.iload_n 1, 1) := by decide +kernel
theorem dX10_walk_90 : decode cX10_walk 90 = .ok (.bipush 100, 2) := by decide +kernel
theorem dX10_walk_92 : decode cX10_walk 92 = .ok (.irem, 1) := by decide +kernel
theorem dX10_walk_93 : decode cX10_walk 93 = .ok (.iaload, 1) := by decide +kernel
theorem dX10_walk_94 : decode cX10_walk 94 = .ok (.ireturn, 1) := by decide +kernel
theorem dX10_patches_0 : decode cX10_patches 0 = .ok (.iload_n 1, 1) := by decide +kernel
theorem dX10_patches_1 : decode cX10_patches 1 = .ok (.iconst 0, 1) := by decide +kernel
theorem dX10_patches_2 : decode cX10_patches 2 = .ok (.iconst 1, 1) := by decide +kernel
theorem dX10_patches_3 : decode cX10_patches 3 = .ok (.invokestatic 103, 3) := by decide +kernel
theorem dX10_patches_6 : decode cX10_patches 6 = .ok (.ifCond .ne 5, 3) := by decide +kernel
theorem dX10_patches_9 : decode cX10_patches 9 = .ok (.iconst (-1), 1) := by decide +kernel
theorem dX10_patches_10 : decode cX10_patches 10 = .ok (.ireturn, 1) := by decide +kernel
theorem dX10_patches_11 : decode cX10_patches 11 = .ok (.iconst 0, 1) := by decide +kernel
theorem dX10_patches_12 : decode cX10_patches 12 = .ok (.istore_n 2, 1) := by decide +kernel
theorem dX10_patches_13 : decode cX10_patches 13 = .ok (.iload_n 2, 1) := by decide +kernel
theorem dX10_patches_14 : decode cX10_patches 14 = .ok (.bipush 30, 2) := by decide +kernel
theorem dX10_patches_16 : decode cX10_patches 16 = .ok (.if_icmp .ge 16, 3) := by decide +kernel
theorem dX10_patches_19 : decode cX10_patches 19 = .ok (.aload_n 0, 1) := by decide +kernel
theorem dX10_patches_20 : decode cX10_patches 20 = .ok (.getfield 100, 3) := by decide +kernel
theorem dX10_patches_23 : decode cX10_patches 23 = .ok (.iload_n 2, 1) := by decide +kernel
theorem dX10_patches_24 : decode cX10_patches 24 = .ok (.iload_n 2, 1) := by decide +kernel
theorem dX10_patches_25 : decode cX10_patches 25 = .ok (.iastore, 1) := by decide +kernel
theorem dX10_patches_26 : decode cX10_patches 26 = .ok (.iinc 2 1, 3) := by decide +kernel
theorem dX10_patches_29 : decode cX10_patches 29 = .ok (.goto (-16), 3) := by decide +kernel
theorem dX10_patches_32 : decode cX10_patches 32 = .ok (.iconst 0, 1) := by decide +kernel
theorem dX10_patches_33 : decode cX10_patches 33 = .ok (.istore_n 2, 1) := by decide +kernel
theorem dX10_patches_34 : decode cX10_patches 34 = .ok (.iload_n 2, 1) := by decide +kernel
theorem dX10_patches_35 : decode cX10_patches 35 = .ok (.bipush 30, 2) := by decide +kernel
theorem dX10_patches_37 : decode cX10_patches 37 = .ok (.if_icmp .ge 108, 3) := by decide +kernel
theorem dX10_patches_40 : decode cX10_patches 40 = .ok (.iconst 0, 1) := by decide +kernel
theorem dX10_patches_41 : decode cX10_patches 41 = .ok (.istore_n 3, 1) := by decide +kernel
theorem dX10_patches_42 : decode cX10_patches 42 = .ok (.iload_n 3, 1) := by decide +kernel
theorem dX10_patches_43 : decode cX10_patches 43 = .ok (.bipush 30, 2) := by decide +kernel
theorem dX10_patches_45 : decode cX10_patches 45 = .ok (.if_icmp .ge 94, 3) := by decide +kernel
theorem dX10_patches_48 : decode cX10_patches 48 = .ok (.iconst 0, 1) := by decide +kernel
theorem dX10_patches_49 : decode cX10_patches 49 = .ok (.istore 4, 2) := by decide +kernel
theorem dX10_patches_51 : decode cX10_patches 51 = .ok (.iload 4, 2) := by decide +kernel
theorem dX10_patches_53 : decode cX10_patches 53 = .ok (.iconst 4, 1) := by decide +kernel
theorem dX10_patches_54 : decode cX10_patches 54 = .ok (.if_icmp .ge 79, 3) := by decide +kernel
theorem dX10_patches_57 : decode cX10_patches 57 = .ok (.iload_n 3, 1) := by decide +kernel
theorem dX10_patches_58 : decode cX10_patches 58 = .ok (.iload 4, 2) := by decide +kernel
theorem dX10_patches_60 : decode cX10_patches 60 = .ok (.invokestatic 215, 3) := by decide +kernel
theorem dX10_patches_63 : decode cX10_patches 63 = .ok (.istore 5, 2) := by decide +kernel
theorem dX10_patches_65 : decode cX10_patches 65 = .ok (.iload 5, 2) := by decide +kernel
theorem dX10_patches_67 : decode cX10_patches 67 = .ok (.ifCond .lt 60, 3) := by decide +kernel
theorem dX10_patches_70 : decode cX10_patches 70 = .ok (.aload_n 0, 1) := by decide +kernel
theorem dX10_patches_71 : decode cX10_patches 71 = .ok (.getfield 15, 3) := by decide +kernel
theorem dX10_patches_74 : decode cX10_patches 74 = .ok (.iload_n 3, 1) := by decide +kernel
theorem dX10_patches_75 : decode cX10_patches 75 = .ok (.iaload, 1) := by decide +kernel
theorem dX10_patches_76 : decode cX10_patches 76 = .ok (.ifCond .le 51, 3) := by decide +kernel
theorem dX10_patches_79 : decode cX10_patches 79 = .ok (.aload_n 0, 1) := by decide +kernel
theorem dX10_patches_80 : decode cX10_patches 80 = .ok (.getfield 15, 3) := by decide +kernel
theorem dX10_patches_83 : decode cX10_patches 83 = .ok (.iload 5, 2) := by decide +kernel
theorem dX10_patches_85 : decode cX10_patches 85 = .ok (.iaload, 1) := by decide +kernel
theorem dX10_patches_86 : decode cX10_patches 86 = .ok (.ifCond .le 41, 3) := by decide +kernel
theorem dX10_patches_89 : decode cX10_patches 89 = .ok (.aload_n 0, 1) := by decide +kernel
theorem dX10_patches_90 : decode cX10_patches 90 = .ok (.getfield 9, 3) := by decide +kernel
theorem dX10_patches_93 : decode cX10_patches 93 = .ok (.iload_n 3, 1) := by decide +kernel
theorem dX10_patches_94 : decode cX10_patches 94 = .ok (.iaload, 1) := by decide +kernel
theorem dX10_patches_95 : decode cX10_patches 95 = .ok (.aload_n 0, 1) := by decide +kernel
theorem dX10_patches_96 : decode cX10_patches 96 = .ok (.getfield 9, 3) := by decide +kernel
theorem dX10_patches_99 : decode cX10_patches 99 = .ok (.iload 5, 2) := by decide +kernel
theorem dX10_patches_101 : decode cX10_patches 101 = .ok (.iaload, 1) := by decide +kernel
theorem dX10_patches_102 : decode cX10_patches 102 = .ok (.if_icmp .ne 25, 3) := by decide +kernel
theorem dX10_patches_105 : decode cX10_patches 105 = .ok (.aload_n 0, 1) := by decide +kernel
theorem dX10_patches_106 : decode cX10_patches 106 = .ok (.getfield 100, 3) := by decide +kernel
theorem dX10_patches_109 : decode cX10_patches 109 = .ok (.iload_n 3, 1) := by decide +kernel
theorem dX10_patches_110 : decode cX10_patches 110 = .ok (.aload_n 0, 1) := by decide +kernel
theorem dX10_patches_111 : decode cX10_patches 111 = .ok (.getfield 100, 3) := by decide +kernel
theorem dX10_patches_114 : decode cX10_patches 114 = .ok (.iload_n 3, 1) := by decide +kernel
theorem dX10_patches_115 : decode cX10_patches 115 = .ok (.iaload, 1) := by decide +kernel
theorem dX10_patches_116 : decode cX10_patches 116 = .ok (.aload_n 0, 1) := by decide +kernel
theorem dX10_patches_117 : decode cX10_patches 117 = .ok (.getfield 100, 3) := by decide +kernel
theorem dX10_patches_120 : decode cX10_patches 120 = .ok (.iload 5, 2) := by decide +kernel
theorem dX10_patches_122 : decode cX10_patches 122 = .ok (.iaload, 1) := by decide +kernel
theorem dX10_patches_123 : decode cX10_patches 123 = .ok (.invokestatic 227, 3) := by decide +kernel
theorem dX10_patches_126 : decode cX10_patches 126 = .ok (.iastore, 1) := by decide +kernel
theorem dX10_patches_127 : decode cX10_patches 127 = .ok (.iinc 4 1, 3) := by decide +kernel
theorem dX10_patches_130 : decode cX10_patches 130 = .ok (.goto (-79), 3) := by decide +kernel
theorem dX10_patches_133 : decode cX10_patches 133 = .ok (.iinc 3 1, 3) := by decide +kernel
theorem dX10_patches_136 : decode cX10_patches 136 = .ok (.goto (-94), 3) := by decide +kernel
theorem dX10_patches_139 : decode cX10_patches 139 = .ok (.iinc 2 1, 3) := by decide +kernel
theorem dX10_patches_142 : decode cX10_patches 142 = .ok (.goto (-108), 3) := by decide +kernel
theorem dX10_patches_145 : decode cX10_patches 145 = .ok (.iconst 0, 1) := by decide +kernel
theorem dX10_patches_146 : decode cX10_patches 146 = .ok (.istore_n 2, 1) := by decide +kernel
theorem dX10_patches_147 : decode cX10_patches 147 = .ok (.iconst 0, 1) := by decide +kernel
theorem dX10_patches_148 : decode cX10_patches 148 = .ok (.istore_n 3, 1) := by decide +kernel
theorem dX10_patches_149 : decode cX10_patches 149 = .ok (.iconst 0, 1) := by decide +kernel
theorem dX10_patches_150 : decode cX10_patches 150 = .ok (.istore 4, 2) := by decide +kernel
theorem dX10_patches_152 : decode cX10_patches 152 = .ok (.iload 4, 2) := by decide +kernel
theorem dX10_patches_154 : decode cX10_patches 154 = .ok (.bipush 30, 2) := by decide +kernel
theorem dX10_patches_156 : decode cX10_patches 156 = .ok (.if_icmp .ge 88, 3) := by decide +kernel
theorem dX10_patches_159 : decode cX10_patches 159 = .ok (.aload_n 0, 1) := by decide +kernel
theorem dX10_patches_160 : decode cX10_patches 160 = .ok (.getfield 15, 3) := by decide +kernel
theorem dX10_patches_163 : decode cX10_patches 163 = .ok (.iload 4, 2) := by decide +kernel
theorem dX10_patches_165 : decode cX10_patches 165 = .ok (.iaload, 1) := by decide +kernel
theorem dX10_patches_166 : decode cX10_patches 166 = .ok (.ifCond .eq 72, 3) := by decide +kernel
theorem dX10_patches_169 : decode cX10_patches 169 = .ok (.aload_n 0, 1) := by decide +kernel
theorem dX10_patches_170 : decode cX10_patches 170 = .ok (.getfield 100, 3) := by decide +kernel
theorem dX10_patches_173 : decode cX10_patches 173 = .ok (.iload 4, 2) := by decide +kernel
theorem dX10_patches_175 : decode cX10_patches 175 = .ok (.iaload, 1) := by decide +kernel
theorem dX10_patches_176 : decode cX10_patches 176 = .ok (.iload 4, 2) := by decide +kernel
theorem dX10_patches_178 : decode cX10_patches 178 = .ok (.if_icmp .eq 6, 3) := by decide +kernel
theorem dX10_patches_181 : decode cX10_patches 181 = .ok (.goto 57, 3) := by decide +kernel
theorem dX10_patches_184 : decode cX10_patches 184 = .ok (.iinc 2 1, 3) := by decide +kernel
theorem dX10_patches_187 : decode cX10_patches 187 = .ok (.iconst 0, 1) := by decide +kernel
theorem dX10_patches_188 : decode cX10_patches 188 = .ok (.istore 5, 2) := by decide +kernel
theorem dX10_patches_190 : decode cX10_patches 190 = .ok (.iconst 0, 1) := by decide +kernel
theorem dX10_patches_191 : decode cX10_patches 191 = .ok (.istore 6, 2) := by decide +kernel
theorem dX10_patches_193 : decode cX10_patches 193 = .ok (.iload 6, 2) := by decide +kernel
theorem dX10_patches_195 : decode cX10_patches 195 = .ok (.bipush 30, 2) := by decide +kernel
theorem dX10_patches_197 : decode cX10_patches 197 = .ok (.if_icmp .ge 34, 3) := by decide +kernel
theorem dX10_patches_200 : decode cX10_patches 200 = .ok (.aload_n 0, 1) := by decide +kernel
theorem dX10_patches_201 : decode cX10_patches 201 = .ok (.getfield 15, 3) := by decide +kernel
theorem dX10_patches_204 : decode cX10_patches 204 = .ok (.iload 6, 2) := by decide +kernel
theorem dX10_patches_206 : decode cX10_patches 206 = .ok (.iaload, 1) := by decide +kernel
theorem dX10_patches_207 : decode cX10_patches 207 = .ok (.ifCond .le 18, 3) := by decide +kernel
theorem dX10_patches_210 : decode cX10_patches 210 = .ok (.aload_n 0, 1) := by decide +kernel
theorem dX10_patches_211 : decode cX10_patches 211 = .ok (.getfield 100, 3) := by decide +kernel
theorem dX10_patches_214 : decode cX10_patches 214 = .ok (.iload 6, 2) := by decide +kernel
theorem dX10_patches_216 : decode cX10_patches 216 = .ok (.iaload, 1) := by decide +kernel
theorem dX10_patches_217 : decode cX10_patches 217 = .ok (.iload 4, 2) := by decide +kernel
theorem dX10_patches_219 : decode cX10_patches 219 = .ok (.if_icmp .ne 6, 3) := by decide +kernel
theorem dX10_patches_222 : decode cX10_patches 222 = .ok (.iinc 5 1, 3) := by decide +kernel
theorem dX10_patches_225 : decode cX10_patches 225 = .ok (.iinc 6 1, 3) := by decide +kernel
theorem dX10_patches_228 : decode cX10_patches 228 = .ok (.goto (-35), 3) := by decide +kernel
theorem dX10_patches_231 : decode cX10_patches 231 = .ok (.iload_n 3, 1) := by decide +kernel
theorem dX10_patches_232 : decode cX10_patches 232 = .ok (.iload 5, 2) := by decide +kernel
theorem dX10_patches_234 : decode cX10_patches 234 = .ok (.invokestatic 232, 3) := by decide +kernel
theorem dX10_patches_237 : decode cX10_patches 237 = .ok (.istore_n 3, 1) := by decide +kernel
theorem dX10_patches_238 : decode cX10_patches 238 = .ok (.iinc 4 1, 3) := by decide +kernel
theorem dX10_patches_241 : decode cX10_patches 241 = .ok (.goto (-89), 3) := by decide +kernel
theorem dX10_patches_244 : decode cX10_patches 244 = .ok (.iload_n 1, 1) := by decide +kernel
theorem dX10_patches_245 : decode cX10_patches 245 = .ok (.ifCond .ne 7, 3) := by decide +kernel
theorem dX10_patches_248 : decode cX10_patches 248 = .ok (.iload_n 2, 1) := by decide +kernel
theorem dX10_patches_249 : decode cX10_patches 249 = .ok (.goto 4, 3) := by decide +kernel
theorem dX10_patches_252 : decode cX10_patches 252 = .ok (.iload_n 3, 1) := by decide +kernel
theorem dX10_patches_253 : decode cX10_patches 253 = .ok (.ireturn, 1) := by decide +kernel
theorem dX10_turnFrom_0 : decode cX10_turnFrom 0 = .ok (.iload_n 1, 1) := by decide +kernel
theorem dX10_turnFrom_1 : decode cX10_turnFrom 1 = .ok (.iload_n 2, 1) := by decide +kernel
theorem dX10_turnFrom_2 : decode cX10_turnFrom 2 = .ok (.if_icmp .ne 31, 3) := by decide +kernel
theorem dX10_turnFrom_5 : decode cX10_turnFrom 5 = .ok (.aload_n 0, 1) := by decide +kernel
theorem dX10_turnFrom_6 : decode cX10_turnFrom 6 = .ok (.aload_n 0, 1) := by decide +kernel
theorem dX10_turnFrom_7 : decode cX10_turnFrom 7 = .ok (.getfield 21, 3) := by decide +kernel
theorem dX10_turnFrom_10 : decode cX10_turnFrom 10 = .ok (.iload_n 3, 1) := by decide +kernel
theorem dX10_turnFrom_11 : decode cX10_turnFrom 11 = .ok (.bipush 10, 2) := by decide +kernel
theorem dX10_turnFrom_13 : decode cX10_turnFrom 13 = .ok (.idiv, 1) := by decide +kernel
theorem dX10_turnFrom_14 : decode cX10_turnFrom 14 = .ok (.iaload, 1) := by decide +kernel
theorem dX10_turnFrom_15 : decode cX10_turnFrom 15 = .ok (.invokevirtual 235, 3) := by decide +kernel
theorem dX10_turnFrom_18 : decode cX10_turnFrom 18 = .ok (.aload_n 0, 1) := by decide +kernel
theorem dX10_turnFrom_19 : decode cX10_turnFrom 19 = .ok (.aload_n 0, 1) := by decide +kernel
theorem dX10_turnFrom_20 : decode cX10_turnFrom 20 = .ok (.getfield 21, 3) := by decide +kernel
theorem dX10_turnFrom_23 : decode cX10_turnFrom 23 = .ok (.iload_n 3, 1) := by decide +kernel
theorem dX10_turnFrom_24 : decode cX10_turnFrom 24 = .ok (.bipush 10, 2) := by decide +kernel
theorem dX10_turnFrom_26 : decode cX10_turnFrom 26 = .ok (.irem, 1) := by decide +kernel
theorem dX10_turnFrom_27 : decode cX10_turnFrom 27 = .ok (.iaload, 1) := by decide +kernel
theorem dX10_turnFrom_28 : decode cX10_turnFrom 28 = .ok (.invokevirtual 235, 3) := by decide +kernel
theorem dX10_turnFrom_31 : decode cX10_turnFrom 31 = .ok (.isub, 1) := by decide +kernel
theorem dX10_turnFrom_32 : decode cX10_turnFrom 32 = .ok (.ireturn, 1) := by decide +kernel
theorem dX10_turnFrom_33 : decode cX10_turnFrom 33 = .ok (.aload_n 0, 1) := by decide +kernel
theorem dX10_turnFrom_34 : decode cX10_turnFrom 34 = .ok (.iload_n 1, 1) := by decide +kernel
theorem dX10_turnFrom_35 : decode cX10_turnFrom 35 = .ok (.iconst 1, 1) := by decide +kernel
theorem dX10_turnFrom_36 : decode cX10_turnFrom 36 = .ok (.iadd, 1) := by decide +kernel
theorem dX10_turnFrom_37 : decode cX10_turnFrom 37 = .ok (.iload_n 2, 1) := by decide +kernel
theorem dX10_turnFrom_38 : decode cX10_turnFrom 38 = .ok (.iload_n 3, 1) := by decide +kernel
theorem dX10_turnFrom_39 : decode cX10_turnFrom 39 = .ok (.iload 4, 2) := by decide +kernel
theorem dX10_turnFrom_41 : decode cX10_turnFrom 41 = .ok (.invokevirtual 307, 3) := by decide +kernel
theorem dX10_turnFrom_44 : decode cX10_turnFrom 44 = .ok (.istore 5, 2) := by decide +kernel
theorem dX10_turnFrom_46 : decode cX10_turnFrom 46 = .ok (.iload_n 1, 1) := by decide +kernel
theorem dX10_turnFrom_47 : decode cX10_turnFrom 47 = .ok (.iconst 2, 1) := by decide +kernel
theorem dX10_turnFrom_48 : decode cX10_turnFrom 48 = .ok (.irem, 1) := by decide +kernel
theorem dX10_turnFrom_49 : decode cX10_turnFrom 49 = .ok (.ifCond .ne 11, 3) := by decide +kernel
theorem dX10_turnFrom_52 : decode cX10_turnFrom 52 = .ok (.iload 4, 2) := by decide +kernel
theorem dX10_turnFrom_54 : decode cX10_turnFrom 54 = .ok (.bipush 10, 2) := by decide +kernel
theorem dX10_turnFrom_56 : decode cX10_turnFrom 56 = .ok (.idiv, 1) := by decide +kernel
theorem dX10_turnFrom_57 : decode cX10_turnFrom 57 = .ok (.goto 8, 3) := by decide +kernel
theorem dX10_turnFrom_60 : decode cX10_turnFrom 60 = .ok (.iload 4, 2) := by decide +kernel
theorem dX10_turnFrom_62 : decode cX10_turnFrom 62 = .ok (.bipush 10, 2) := by decide +kernel
theorem dX10_turnFrom_64 : decode cX10_turnFrom 64 = .ok (.irem, 1) := by decide +kernel
theorem dX10_turnFrom_65 : decode cX10_turnFrom 65 = .ok (.istore 6, 2) := by decide +kernel
theorem dX10_turnFrom_67 : decode cX10_turnFrom 67 = .ok (.iconst 0, 1) := by decide +kernel
theorem dX10_turnFrom_68 : decode cX10_turnFrom 68 = .ok (.istore 7, 2) := by decide +kernel
theorem dX10_turnFrom_70 : decode cX10_turnFrom 70 = .ok (.iload 7, 2) := by decide +kernel
theorem dX10_turnFrom_72 : decode cX10_turnFrom 72 = .ok (.iconst 2, 1) := by decide +kernel
theorem dX10_turnFrom_73 : decode cX10_turnFrom 73 = .ok (.if_icmp .ge 71, 3) := by decide +kernel
theorem dX10_turnFrom_76 : decode cX10_turnFrom 76 = .ok (.aload_n 0, 1) := by decide +kernel
theorem dX10_turnFrom_77 : decode cX10_turnFrom 77 = .ok (.iconst 2, 1) := by decide +kernel
theorem dX10_turnFrom_78 : decode cX10_turnFrom 78 = .ok (.iload 6, 2) := by decide +kernel
theorem dX10_turnFrom_80 : decode cX10_turnFrom 80 = .ok (.imul, 1) := by decide +kernel
theorem dX10_turnFrom_81 : decode cX10_turnFrom 81 = .ok (.iload 7, 2) := by decide +kernel
theorem dX10_turnFrom_83 : decode cX10_turnFrom 83 = .ok (.iadd, 1) := by decide +kernel
theorem dX10_turnFrom_84 : decode cX10_turnFrom 84 = .ok (.invokevirtual 274, 3) := by decide +kernel
theorem dX10_turnFrom_87 : decode cX10_turnFrom 87 = .ok (.aload_n 0, 1) := by decide +kernel
theorem dX10_turnFrom_88 : decode cX10_turnFrom 88 = .ok (.iload_n 1, 1) := by decide +kernel
theorem dX10_turnFrom_89 : decode cX10_turnFrom 89 = .ok (.iconst 1, 1) := by decide +kernel
theorem dX10_turnFrom_90 : decode cX10_turnFrom 90 = .ok (.iadd, 1) := by decide +kernel
theorem dX10_turnFrom_91 : decode cX10_turnFrom 91 = .ok (.iload_n 2, 1) := by decide +kernel
theorem dX10_turnFrom_92 : decode cX10_turnFrom 92 = .ok (.iload_n 3, 1) := by decide +kernel
theorem dX10_turnFrom_93 : decode cX10_turnFrom 93 = .ok (.iload 4, 2) := by decide +kernel
theorem dX10_turnFrom_95 : decode cX10_turnFrom 95 = .ok (.invokevirtual 307, 3) := by decide +kernel
theorem dX10_turnFrom_98 : decode cX10_turnFrom 98 = .ok (.istore 8, 2) := by decide +kernel
theorem dX10_turnFrom_100 : decode cX10_turnFrom 100 = .ok (.aload_n 0, 1) := by decide +kernel
theorem dX10_turnFrom_101 : decode cX10_turnFrom 101 = .ok (.iconst 2, 1) := by decide +kernel
theorem dX10_turnFrom_102 : decode cX10_turnFrom 102 = .ok (.iload 6, 2) := by decide +kernel
theorem dX10_turnFrom_104 : decode cX10_turnFrom 104 = .ok (.imul, 1) := by decide +kernel
theorem dX10_turnFrom_105 : decode cX10_turnFrom 105 = .ok (.iconst 1, 1) := by decide +kernel
theorem dX10_turnFrom_106 : decode cX10_turnFrom 106 = .ok (.iadd, 1) := by decide +kernel
theorem dX10_turnFrom_107 : decode cX10_turnFrom 107 = .ok (.iload 7, 2) := by decide +kernel
theorem dX10_turnFrom_109 : decode cX10_turnFrom 109 = .ok (.isub, 1) := by decide +kernel
theorem dX10_turnFrom_110 : decode cX10_turnFrom 110 = .ok (.invokevirtual 274, 3) := by decide +kernel
theorem dX10_turnFrom_113 : decode cX10_turnFrom 113 = .ok (.iload_n 1, 1) := by decide +kernel
theorem dX10_turnFrom_114 : decode cX10_turnFrom 114 = .ok (.iconst 2, 1) := by decide +kernel
theorem dX10_turnFrom_115 : decode cX10_turnFrom 115 = .ok (.irem, 1) := by decide +kernel
theorem dX10_turnFrom_116 : decode cX10_turnFrom 116 = .ok (.ifCond .ne 13, 3) := by decide +kernel
theorem dX10_turnFrom_119 : decode cX10_turnFrom 119 = .ok (.iload 5, 2) := by decide +kernel
theorem dX10_turnFrom_121 : decode cX10_turnFrom 121 = .ok (.iload 8, 2) := by decide +kernel
theorem dX10_turnFrom_123 : decode cX10_turnFrom 123 = .ok (.invokestatic 232, 3) := by decide +kernel
theorem dX10_turnFrom_126 : decode cX10_turnFrom 126 = .ok (.goto 10, 3) := by decide +kernel
theorem dX10_turnFrom_129 : decode cX10_turnFrom 129 = .ok (.iload 5, 2) := by decide +kernel
theorem dX10_turnFrom_131 : decode cX10_turnFrom 131 = .ok (.iload 8, 2) := by decide +kernel
theorem dX10_turnFrom_133 : decode cX10_turnFrom 133 = .ok (.invokestatic 227, 3) := by decide +kernel
theorem dX10_turnFrom_136 : decode cX10_turnFrom 136 = .ok (.istore 5, 2) := by decide +kernel
theorem dX10_turnFrom_138 : decode cX10_turnFrom 138 = .ok (.iinc 7 1, 3) := by decide +kernel
theorem dX10_turnFrom_141 : decode cX10_turnFrom 141 = .ok (.goto (-71), 3) := by decide +kernel
theorem dX10_turnFrom_144 : decode cX10_turnFrom 144 = .ok (.iload 5, 2) := by decide +kernel
theorem dX10_turnFrom_146 : decode cX10_turnFrom 146 = .ok (.ireturn, 1) := by decide +kernel
theorem dX10_byTurns_0 : decode cX10_byTurns 0 = .ok (.iload_n 1, 1) := by decide +kernel
theorem dX10_byTurns_1 : decode cX10_byTurns 1 = .ok (.ifCond .lt 36, 3) := by decide +kernel
theorem dX10_byTurns_4 : decode cX10_byTurns 4 = .ok (.aload_n 0, 1) := by decide +kernel
theorem dX10_byTurns_5 : decode cX10_byTurns 5 = .ok (.iload_n 1, 1) := by decide +kernel
theorem dX10_byTurns_6 : decode cX10_byTurns 6 = .ok (.bipush 10, 2) := by decide +kernel
theorem dX10_byTurns_8 : decode cX10_byTurns 8 = .ok (.idiv, 1) := by decide +kernel
theorem dX10_byTurns_9 : decode cX10_byTurns 9 = .ok (.invokevirtual 128, 3) := by decide +kernel
theorem dX10_byTurns_12 : decode cX10_byTurns 12 = .ok (.ifCond .eq 25, 3) := by decide +kernel
theorem dX10_byTurns_15 : decode cX10_byTurns 15 = .ok (.aload_n 0, 1) := by decide +kernel
theorem dX10_byTurns_16 : decode cX10_byTurns 16 = .ok (.iload_n 1, 1) := by decide +kernel
theorem dX10_byTurns_17 : decode cX10_byTurns 17 = .ok (.bipush 10, 2) := by decide +kernel
theorem dX10_byTurns_19 : decode cX10_byTurns 19 = .ok (.irem, 1) := by decide +kernel
theorem dX10_byTurns_20 : decode cX10_byTurns 20 = .ok (.invokevirtual 128, 3) := by decide +kernel
theorem dX10_byTurns_23 : decode cX10_byTurns 23 = .ok (.ifCond .eq 14, 3) := by decide +kernel
theorem dX10_byTurns_26 : decode cX10_byTurns 26 = .ok (.iload_n 1, 1) := by decide +kernel
theorem dX10_byTurns_27 : decode cX10_byTurns 27 = .ok (.bipush 10, 2) := by decide +kernel
theorem dX10_byTurns_29 : decode cX10_byTurns 29 = .ok (.idiv, 1) := by decide +kernel
theorem dX10_byTurns_30 : decode cX10_byTurns 30 = .ok (.iload_n 1, 1) := by decide +kernel
theorem dX10_byTurns_31 : decode cX10_byTurns 31 = .ok (.bipush 10, 2) := by decide +kernel
theorem dX10_byTurns_33 : decode cX10_byTurns 33 = .ok (.irem, 1) := by decide +kernel
theorem dX10_byTurns_34 : decode cX10_byTurns 34 = .ok (.if_icmp .ne 7, 3) := by decide +kernel
theorem dX10_byTurns_37 : decode cX10_byTurns 37 = .ok (.ldc_w 311, 3) := by decide +kernel
theorem dX10_byTurns_40 : decode cX10_byTurns 40 = .ok (.ireturn, 1) := by decide +kernel
theorem dX10_byTurns_41 : decode cX10_byTurns 41 = .ok (.iload_n 2, 1) := by decide +kernel
theorem dX10_byTurns_42 : decode cX10_byTurns 42 = .ok (.ifCond .lt 49, 3) := by decide +kernel
theorem dX10_byTurns_45 : decode cX10_byTurns 45 = .ok (.iload_n 2, 1) := by decide +kernel
theorem dX10_byTurns_46 : decode cX10_byTurns 46 = .ok (.bipush 10, 2) := by decide +kernel
theorem dX10_byTurns_48 : decode cX10_byTurns 48 = .ok (.idiv, 1) := by decide +kernel
theorem dX10_byTurns_49 : decode cX10_byTurns 49 = .ok (.iconst 5, 1) := by decide +kernel
theorem dX10_byTurns_50 : decode cX10_byTurns 50 = .ok (.if_icmp .ge 41, 3) := by decide +kernel
theorem dX10_byTurns_53 : decode cX10_byTurns 53 = .ok (.iload_n 2, 1) := by decide +kernel
theorem dX10_byTurns_54 : decode cX10_byTurns 54 = .ok (.bipush 10, 2) := by decide +kernel
theorem dX10_byTurns_56 : decode cX10_byTurns 56 = .ok (.irem, 1) := by decide +kernel
theorem dX10_byTurns_57 : decode cX10_byTurns 57 = .ok (.iconst 5, 1) := by decide +kernel
theorem dX10_byTurns_58 : decode cX10_byTurns 58 = .ok (.if_icmp .ge 33, 3) := by decide +kernel
theorem dX10_byTurns_61 : decode cX10_byTurns 61 = .ok (.iload_n 2, 1) := by decide +kernel
theorem dX10_byTurns_62 : decode cX10_byTurns 62 = .ok (.bipush 10, 2) := by decide +kernel
theorem dX10_byTurns_64 : decode cX10_byTurns 64 = .ok (.idiv, 1) := by decide +kernel
theorem dX10_byTurns_65 : decode cX10_byTurns 65 = .ok (.iload_n 2, 1) := by decide +kernel
theorem dX10_byTurns_66 : decode cX10_byTurns 66 = .ok (.bipush 10, 2) := by decide +kernel
theorem dX10_byTurns_68 : decode cX10_byTurns 68 = .ok (.irem, 1) := by decide +kernel
theorem dX10_byTurns_69 : decode cX10_byTurns 69 = .ok (.if_icmp .eq 22, 3) := by decide +kernel
theorem dX10_byTurns_72 : decode cX10_byTurns 72 = .ok (.iload_n 3, 1) := by decide +kernel
theorem dX10_byTurns_73 : decode cX10_byTurns 73 = .ok (.iconst 1, 1) := by decide +kernel
theorem dX10_byTurns_74 : decode cX10_byTurns 74 = .ok (.iconst 4, 1) := by decide +kernel
theorem dX10_byTurns_75 : decode cX10_byTurns 75 = .ok (.invokestatic 103, 3) := by decide +kernel
theorem dX10_byTurns_78 : decode cX10_byTurns 78 = .ok (.ifCond .eq 13, 3) := by decide +kernel
theorem dX10_byTurns_81 : decode cX10_byTurns 81 = .ok (.iload 4, 2) := by decide +kernel
theorem dX10_byTurns_83 : decode cX10_byTurns 83 = .ok (.iconst 0, 1) := by decide +kernel
theorem dX10_byTurns_84 : decode cX10_byTurns 84 = .ok (.iconst 1, 1) := by decide +kernel
theorem dX10_byTurns_85 : decode cX10_byTurns 85 = .ok (.invokestatic 103, 3) := by decide +kernel
theorem dX10_byTurns_88 : decode cX10_byTurns 88 = .ok (.ifCond .ne 7, 3) := by decide +kernel
theorem dX10_byTurns_91 : decode cX10_byTurns 91 = .ok (.ldc_w 311, 3) := by decide +kernel
theorem dX10_byTurns_94 : decode cX10_byTurns 94 = .ok (.ireturn, 1) := by decide +kernel
theorem dX10_byTurns_95 : decode cX10_byTurns 95 = .ok (.aload_n 0, 1) := by decide +kernel
theorem dX10_byTurns_96 : decode cX10_byTurns 96 = .ok (.iconst 1, 1) := by decide +kernel
theorem dX10_byTurns_97 : decode cX10_byTurns 97 = .ok (.iload_n 3, 1) := by decide +kernel
theorem dX10_byTurns_98 : decode cX10_byTurns 98 = .ok (.iload_n 1, 1) := by decide +kernel
theorem dX10_byTurns_99 : decode cX10_byTurns 99 = .ok (.iload_n 2, 1) := by decide +kernel
theorem dX10_byTurns_100 : decode cX10_byTurns 100 = .ok (.invokevirtual 307, 3) := by decide +kernel
theorem dX10_byTurns_103 : decode cX10_byTurns 103 = .ok (.istore 5, 2) := by decide +kernel
theorem dX10_byTurns_105 : decode cX10_byTurns 105 = .ok (.iconst 2, 1) := by decide +kernel
theorem dX10_byTurns_106 : decode cX10_byTurns 106 = .ok (.istore 6, 2) := by decide +kernel
theorem dX10_byTurns_108 : decode cX10_byTurns 108 = .ok (.iconst 0, 1) := by decide +kernel
theorem dX10_byTurns_109 : decode cX10_byTurns 109 = .ok (.istore 7, 2) := by decide +kernel
theorem dX10_byTurns_111 : decode cX10_byTurns 111 = .ok (.iload 7, 2) := by decide +kernel
theorem dX10_byTurns_113 : decode cX10_byTurns 113 = .ok (.iconst 2, 1) := by decide +kernel
theorem dX10_byTurns_114 : decode cX10_byTurns 114 = .ok (.if_icmp .ge 65, 3) := by decide +kernel
theorem dX10_byTurns_117 : decode cX10_byTurns 117 = .ok (.aload_n 0, 1) := by decide +kernel
theorem dX10_byTurns_118 : decode cX10_byTurns 118 = .ok (.iconst 2, 1) := by decide +kernel
theorem dX10_byTurns_119 : decode cX10_byTurns 119 = .ok (.iload_n 2, 1) := by decide +kernel
theorem dX10_byTurns_120 : decode cX10_byTurns 120 = .ok (.bipush 10, 2) := by decide +kernel
theorem dX10_byTurns_122 : decode cX10_byTurns 122 = .ok (.idiv, 1) := by decide +kernel
theorem dX10_byTurns_123 : decode cX10_byTurns 123 = .ok (.imul, 1) := by decide +kernel
theorem dX10_byTurns_124 : decode cX10_byTurns 124 = .ok (.iload 7, 2) := by decide +kernel
theorem dX10_byTurns_126 : decode cX10_byTurns 126 = .ok (.iadd, 1) := by decide +kernel
theorem dX10_byTurns_127 : decode cX10_byTurns 127 = .ok (.invokevirtual 274, 3) := by decide +kernel
theorem dX10_byTurns_130 : decode cX10_byTurns 130 = .ok (.aload_n 0, 1) := by decide +kernel
theorem dX10_byTurns_131 : decode cX10_byTurns 131 = .ok (.iconst 1, 1) := by decide +kernel
theorem dX10_byTurns_132 : decode cX10_byTurns 132 = .ok (.iload_n 3, 1) := by decide +kernel
theorem dX10_byTurns_133 : decode cX10_byTurns 133 = .ok (.iload_n 1, 1) := by decide +kernel
theorem dX10_byTurns_134 : decode cX10_byTurns 134 = .ok (.iload_n 2, 1) := by decide +kernel
theorem dX10_byTurns_135 : decode cX10_byTurns 135 = .ok (.invokevirtual 307, 3) := by decide +kernel
theorem dX10_byTurns_138 : decode cX10_byTurns 138 = .ok (.istore 8, 2) := by decide +kernel
theorem dX10_byTurns_140 : decode cX10_byTurns 140 = .ok (.aload_n 0, 1) := by decide +kernel
theorem dX10_byTurns_141 : decode cX10_byTurns 141 = .ok (.iconst 2, 1) := by decide +kernel
theorem dX10_byTurns_142 : decode cX10_byTurns 142 = .ok (.iload_n 2, 1) := by decide +kernel
theorem dX10_byTurns_143 : decode cX10_byTurns 143 = .ok (.bipush 10, 2) := by decide +kernel
theorem dX10_byTurns_145 : decode cX10_byTurns 145 = .ok (.idiv, 1) := by decide +kernel
theorem dX10_byTurns_146 : decode cX10_byTurns 146 = .ok (.imul, 1) := by decide +kernel
theorem dX10_byTurns_147 : decode cX10_byTurns 147 = .ok (.iconst 1, 1) := by decide +kernel
theorem dX10_byTurns_148 : decode cX10_byTurns 148 = .ok (.iadd, 1) := by decide +kernel
theorem dX10_byTurns_149 : decode cX10_byTurns 149 = .ok (.iload 7, 2) := by decide +kernel
theorem dX10_byTurns_151 : decode cX10_byTurns 151 = .ok (.isub, 1) := by decide +kernel
theorem dX10_byTurns_152 : decode cX10_byTurns 152 = .ok (.invokevirtual 274, 3) := by decide +kernel
theorem dX10_byTurns_155 : decode cX10_byTurns 155 = .ok (.iload 8, 2) := by decide +kernel
theorem dX10_byTurns_157 : decode cX10_byTurns 157 = .ok (.iload 5, 2) := by decide +kernel
theorem dX10_byTurns_159 : decode cX10_byTurns 159 = .ok (.if_icmp .gt 6, 3) := by decide +kernel
theorem dX10_byTurns_162 : decode cX10_byTurns 162 = .ok (.goto 11, 3) := by decide +kernel
theorem dX10_byTurns_165 : decode cX10_byTurns 165 = .ok (.iload 8, 2) := by decide +kernel
theorem dX10_byTurns_167 : decode cX10_byTurns 167 = .ok (.istore 5, 2) := by decide +kernel
theorem dX10_byTurns_169 : decode cX10_byTurns 169 = .ok (.iload 7, 2) := by decide +kernel
theorem dX10_byTurns_171 : decode cX10_byTurns 171 = .ok (.istore 6, 2) := by decide +kernel
theorem dX10_byTurns_173 : decode cX10_byTurns 173 = .ok (.iinc 7 1, 3) := by decide +kernel
theorem dX10_byTurns_176 : decode cX10_byTurns 176 = .ok (.goto (-65), 3) := by decide +kernel
theorem dX10_byTurns_179 : decode cX10_byTurns 179 = .ok (.iload 4, 2) := by decide +kernel
theorem dX10_byTurns_181 : decode cX10_byTurns 181 = .ok (.ifCond .ne 8, 3) := by decide +kernel
theorem dX10_byTurns_184 : decode cX10_byTurns 184 = .ok (.iload 5, 2) := by decide +kernel
theorem dX10_byTurns_186 : decode cX10_byTurns 186 = .ok (.goto 5, 3) := by decide +kernel
theorem dX10_byTurns_189 : decode cX10_byTurns 189 = .ok (.iload 6, 2) := by decide +kernel
theorem dX10_byTurns_191 : decode cX10_byTurns 191 = .ok (.ireturn, 1) := by decide +kernel
theorem dX10_drawn_0 : decode cX10_drawn 0 = .ok (.iload_n 2, 1) := by decide +kernel
theorem dX10_drawn_1 : decode cX10_drawn 1 = .ok (.ifCond .lt 42, 3) := by decide +kernel
theorem dX10_drawn_4 : decode cX10_drawn 4 = .ok (.iload_n 2, 1) := by decide +kernel
theorem dX10_drawn_5 : decode cX10_drawn 5 = .ok (.bipush 100, 2) := by decide +kernel
theorem dX10_drawn_7 : decode cX10_drawn 7 = .ok (.idiv, 1) := by decide +kernel
theorem dX10_drawn_8 : decode cX10_drawn 8 = .ok (.iconst 1, 1) := by decide +kernel
theorem dX10_drawn_9 : decode cX10_drawn 9 = .ok (.bipush 30, 2) := by decide +kernel
theorem dX10_drawn_11 : decode cX10_drawn 11 = .ok (.invokestatic 103, 3) := by decide +kernel
theorem dX10_drawn_14 : decode cX10_drawn 14 = .ok (.ifCond .eq 29, 3) := by decide +kernel
theorem dX10_drawn_17 : decode cX10_drawn 17 = .ok (.iload_n 2, 1) := by decide +kernel
theorem dX10_drawn_18 : decode cX10_drawn 18 = .ok (.bipush 100, 2) := by decide +kernel
theorem dX10_drawn_20 : decode cX10_drawn 20 = .ok (.irem, 1) := by decide +kernel
theorem dX10_drawn_21 : decode cX10_drawn 21 = .ok (.iconst 1, 1) := by decide +kernel
theorem dX10_drawn_22 : decode cX10_drawn 22 = .ok (.bipush 24, 2) := by decide +kernel
theorem dX10_drawn_24 : decode cX10_drawn 24 = .ok (.invokestatic 103, 3) := by decide +kernel
theorem dX10_drawn_27 : decode cX10_drawn 27 = .ok (.ifCond .eq 16, 3) := by decide +kernel
theorem dX10_drawn_30 : decode cX10_drawn 30 = .ok (.iload_n 3, 1) := by decide +kernel
theorem dX10_drawn_31 : decode cX10_drawn 31 = .ok (.iconst (-1), 1) := by decide +kernel
theorem dX10_drawn_32 : decode cX10_drawn 32 = .ok (.if_icmp .eq 13, 3) := by decide +kernel
theorem dX10_drawn_35 : decode cX10_drawn 35 = .ok (.aload_n 0, 1) := by decide +kernel
theorem dX10_drawn_36 : decode cX10_drawn 36 = .ok (.iload_n 3, 1) := by decide +kernel
theorem dX10_drawn_37 : decode cX10_drawn 37 = .ok (.invokevirtual 128, 3) := by decide +kernel
theorem dX10_drawn_40 : decode cX10_drawn 40 = .ok (.ifCond .ne 5, 3) := by decide +kernel
theorem dX10_drawn_43 : decode cX10_drawn 43 = .ok (.iconst (-1), 1) := by decide +kernel
theorem dX10_drawn_44 : decode cX10_drawn 44 = .ok (.ireturn, 1) := by decide +kernel
theorem dX10_drawn_45 : decode cX10_drawn 45 = .ok (.aload_n 0, 1) := by decide +kernel
theorem dX10_drawn_46 : decode cX10_drawn 46 = .ok (.aload_n 0, 1) := by decide +kernel
theorem dX10_drawn_47 : decode cX10_drawn 47 = .ok (.getfield 91, 3) := by decide +kernel
theorem dX10_drawn_50 : decode cX10_drawn 50 = .ok (.invokevirtual 257, 3) := by decide +kernel
theorem dX10_drawn_53 : decode cX10_drawn 53 = .ok (.iload_n 1, 1) := by decide +kernel
theorem dX10_drawn_54 : decode cX10_drawn 54 = .ok (.istore 4, 2) := by decide +kernel
theorem dX10_drawn_56 : decode cX10_drawn 56 = .ok (.iconst 0, 1) := by decide +kernel
theorem dX10_drawn_57 : decode cX10_drawn 57 = .ok (.istore 5, 2) := by decide +kernel
theorem dX10_drawn_59 : decode cX10_drawn 59 = .ok (.iconst 0, 1) := by decide +kernel
theorem dX10_drawn_60 : decode cX10_drawn 60 = .ok (.istore 6, 2) := by decide +kernel
theorem dX10_drawn_62 : decode cX10_drawn 62 = .ok (.iload 6, 2) := by decide +kernel
theorem dX10_drawn_64 : decode cX10_drawn 64 = .ok (.iload_n 2, 1) := by decide +kernel
theorem dX10_drawn_65 : decode cX10_drawn 65 = .ok (.bipush 100, 2) := by decide +kernel
theorem dX10_drawn_67 : decode cX10_drawn 67 = .ok (.idiv, 1) := by decide +kernel
theorem dX10_drawn_68 : decode cX10_drawn 68 = .ok (.if_icmp .ge 147, 3) := by decide +kernel
theorem dX10_drawn_71 : decode cX10_drawn 71 = .ok (.iconst 0, 1) := by decide +kernel
theorem dX10_drawn_72 : decode cX10_drawn 72 = .ok (.istore 7, 2) := by decide +kernel
theorem dX10_drawn_74 : decode cX10_drawn 74 = .ok (.iload 7, 2) := by decide +kernel
theorem dX10_drawn_76 : decode cX10_drawn 76 = .ok (.iload_n 2, 1) := by decide +kernel
theorem dX10_drawn_77 : decode cX10_drawn 77 = .ok (.bipush 100, 2) := by decide +kernel
theorem dX10_drawn_79 : decode cX10_drawn 79 = .ok (.irem, 1) := by decide +kernel
theorem dX10_drawn_80 : decode cX10_drawn 80 = .ok (.if_icmp .ge 121, 3) := by decide +kernel
theorem dX10_drawn_83 : decode cX10_drawn 83 = .ok (.iload 4, 2) := by decide +kernel
theorem dX10_drawn_85 : decode cX10_drawn 85 = .ok (.ldc_w 312, 3) := by decide +kernel
theorem dX10_drawn_88 : decode cX10_drawn 88 = .ok (.imul, 1) := by decide +kernel
theorem dX10_drawn_89 : decode cX10_drawn 89 = .ok (.sipush 12345, 3) := by decide +kernel
theorem dX10_drawn_92 : decode cX10_drawn 92 = .ok (.iadd, 1) := by decide +kernel
theorem dX10_drawn_93 : decode cX10_drawn 93 = .ok (.istore 4, 2) := by decide +kernel
theorem dX10_drawn_95 : decode cX10_drawn 95 = .ok (.iload 4, 2) := by decide +kernel
theorem dX10_drawn_97 : decode cX10_drawn 97 = .ok (.bipush 8, 2) := by decide +kernel
theorem dX10_drawn_99 : decode cX10_drawn 99 = .ok (.iushr, 1) := by decide +kernel
theorem dX10_drawn_100 : decode cX10_drawn 100 = .ok (.iconst 3, 1) := by decide +kernel
theorem dX10_drawn_101 : decode cX10_drawn 101 = .ok (.irem, 1) := by decide +kernel
theorem dX10_drawn_102 : decode cX10_drawn 102 = .ok (.istore 8, 2) := by decide +kernel
theorem dX10_drawn_104 : decode cX10_drawn 104 = .ok (.iload 4, 2) := by decide +kernel
theorem dX10_drawn_106 : decode cX10_drawn 106 = .ok (.bipush 16, 2) := by decide +kernel
theorem dX10_drawn_108 : decode cX10_drawn 108 = .ok (.iushr, 1) := by decide +kernel
theorem dX10_drawn_109 : decode cX10_drawn 109 = .ok (.bipush 30, 2) := by decide +kernel
theorem dX10_drawn_111 : decode cX10_drawn 111 = .ok (.irem, 1) := by decide +kernel
theorem dX10_drawn_112 : decode cX10_drawn 112 = .ok (.istore 9, 2) := by decide +kernel
theorem dX10_drawn_114 : decode cX10_drawn 114 = .ok (.iload 8, 2) := by decide +kernel
theorem dX10_drawn_116 : decode cX10_drawn 116 = .ok (.ifCond .ne 19, 3) := by decide +kernel
theorem dX10_drawn_119 : decode cX10_drawn 119 = .ok (.aload_n 0, 1) := by decide +kernel
theorem dX10_drawn_120 : decode cX10_drawn 120 = .ok (.iconst 2, 1) := by decide +kernel
theorem dX10_drawn_121 : decode cX10_drawn 121 = .ok (.iload 4, 2) := by decide +kernel
theorem dX10_drawn_123 : decode cX10_drawn 123 = .ok (.bipush 16, 2) := by decide +kernel
theorem dX10_drawn_125 : decode cX10_drawn 125 = .ok (.iushr, 1) := by decide +kernel
theorem dX10_drawn_126 : decode cX10_drawn 126 = .ok (.iconst 5, 1) := by decide +kernel
theorem dX10_drawn_127 : decode cX10_drawn 127 = .ok (.irem, 1) := by decide +kernel
theorem dX10_drawn_128 : decode cX10_drawn 128 = .ok (.imul, 1) := by decide +kernel
theorem dX10_drawn_129 : decode cX10_drawn 129 = .ok (.invokevirtual 274, 3) := by decide +kernel
theorem dX10_drawn_132 : decode cX10_drawn 132 = .ok (.goto 29, 3) := by decide +kernel
theorem dX10_drawn_135 : decode cX10_drawn 135 = .ok (.iload 8, 2) := by decide +kernel
theorem dX10_drawn_137 : decode cX10_drawn 137 = .ok (.iconst 1, 1) := by decide +kernel
theorem dX10_drawn_138 : decode cX10_drawn 138 = .ok (.if_icmp .ne 23, 3) := by decide +kernel
theorem dX10_drawn_141 : decode cX10_drawn 141 = .ok (.aload_n 0, 1) := by decide +kernel
theorem dX10_drawn_142 : decode cX10_drawn 142 = .ok (.getfield 15, 3) := by decide +kernel
theorem dX10_drawn_145 : decode cX10_drawn 145 = .ok (.iload 9, 2) := by decide +kernel
theorem dX10_drawn_147 : decode cX10_drawn 147 = .ok (.iconst 0, 1) := by decide +kernel
theorem dX10_drawn_148 : decode cX10_drawn 148 = .ok (.aload_n 0, 1) := by decide +kernel
theorem dX10_drawn_149 : decode cX10_drawn 149 = .ok (.getfield 15, 3) := by decide +kernel
theorem dX10_drawn_152 : decode cX10_drawn 152 = .ok (.iload 9, 2) := by decide +kernel
theorem dX10_drawn_154 : decode cX10_drawn 154 = .ok (.iaload, 1) := by decide +kernel
theorem dX10_drawn_155 : decode cX10_drawn 155 = .ok (.iconst 1, 1) := by decide +kernel
theorem dX10_drawn_156 : decode cX10_drawn 156 = .ok (.isub, 1) := by decide +kernel
theorem dX10_drawn_157 : decode cX10_drawn 157 = .ok (.invokestatic 232, 3) := by decide +kernel
theorem dX10_drawn_160 : decode cX10_drawn 160 = .ok (.iastore, 1) := by decide +kernel
theorem dX10_drawn_161 : decode cX10_drawn 161 = .ok (.aload_n 0, 1) := by decide +kernel
theorem dX10_drawn_162 : decode cX10_drawn 162 = .ok (.invokevirtual 268, 3) := by decide +kernel
theorem dX10_drawn_165 : decode cX10_drawn 165 = .ok (.istore 10, 2) := by decide +kernel
theorem dX10_drawn_167 : decode cX10_drawn 167 = .ok (.iload 5, 2) := by decide +kernel
theorem dX10_drawn_169 : decode cX10_drawn 169 = .ok (.iload_n 3, 1) := by decide +kernel
theorem dX10_drawn_170 : decode cX10_drawn 170 = .ok (.iconst (-1), 1) := by decide +kernel
theorem dX10_drawn_171 : decode cX10_drawn 171 = .ok (.if_icmp .ne 11, 3) := by decide +kernel
theorem dX10_drawn_174 : decode cX10_drawn 174 = .ok (.iload 10, 2) := by decide +kernel
theorem dX10_drawn_176 : decode cX10_drawn 176 = .ok (.invokestatic 286, 3) := by decide +kernel
theorem dX10_drawn_179 : decode cX10_drawn 179 = .ok (.goto 9, 3) := by decide +kernel
theorem dX10_drawn_182 : decode cX10_drawn 182 = .ok (.iload 10, 2) := by decide +kernel
theorem dX10_drawn_184 : decode cX10_drawn 184 = .ok (.iload_n 3, 1) := by decide +kernel
theorem dX10_drawn_185 : decode cX10_drawn 185 = .ok (.ishr, 1) := by decide +kernel
theorem dX10_drawn_186 : decode cX10_drawn 186 = .ok (.iconst 1, 1) := by decide +kernel
theorem dX10_drawn_187 : decode cX10_drawn 187 = .ok (.iand, 1) := by decide +kernel
theorem dX10_drawn_188 : decode cX10_drawn 188 = .ok (.iadd, 1) := by decide +kernel
theorem dX10_drawn_189 : decode cX10_drawn 189 = .ok (.istore 5, 2) := by decide +kernel
theorem dX10_drawn_191 : decode cX10_drawn 191 = .ok (.aload_n 0, 1) := by decide +kernel
theorem dX10_drawn_192 : decode cX10_drawn 192 = .ok (.invokevirtual 251, 3) := by decide +kernel
theorem dX10_drawn_195 : decode cX10_drawn 195 = .ok (.iinc 7 1, 3) := by decide +kernel
theorem dX10_drawn_198 : decode cX10_drawn 198 = .ok (.goto (-124), 3) := by decide +kernel
theorem dX10_drawn_201 : decode cX10_drawn 201 = .ok (.aload_n 0, 1) := by decide +kernel
theorem dX10_drawn_202 : decode cX10_drawn 202 = .ok (.aload_n 0, 1) := by decide +kernel
theorem dX10_drawn_203 : decode cX10_drawn 203 = .ok (.getfield 91, 3) := by decide +kernel
theorem dX10_drawn_206 : decode cX10_drawn 206 = .ok (.invokevirtual 265, 3) := by decide +kernel
theorem dX10_drawn_209 : decode cX10_drawn 209 = .ok (.iinc 6 1, 3) := by decide +kernel
theorem dX10_drawn_212 : decode cX10_drawn 212 = .ok (.goto (-150), 3) := by decide +kernel
theorem dX10_drawn_215 : decode cX10_drawn 215 = .ok (.iload 5, 2) := by decide +kernel
theorem dX10_drawn_217 : decode cX10_drawn 217 = .ok (.ireturn, 1) := by decide +kernel
theorem dX10_month_0 : decode cX10_month 0 = .ok (.aload_n 0, 1) := by decide +kernel
theorem dX10_month_1 : decode cX10_month 1 = .ok (.invokevirtual 268, 3) := by decide +kernel
theorem dX10_month_4 : decode cX10_month 4 = .ok (.invokestatic 286, 3) := by decide +kernel
theorem dX10_month_7 : decode cX10_month 7 = .ok (.istore_n 1, 1) := by decide +kernel
theorem dX10_month_8 : decode cX10_month 8 = .ok (.aload_n 0, 1) := by decide +kernel
theorem dX10_month_9 : decode cX10_month 9 = .ok (.invokevirtual 251, 3) := by decide +kernel
theorem dX10_month_12 : decode cX10_month 12 = .ok (.aload_n 0, 1) := by decide +kernel
theorem dX10_month_13 : decode cX10_month 13 = .ok (.getfield 60, 3) := by decide +kernel
theorem dX10_month_16 : decode cX10_month 16 = .ok (.iconst 0, 1) := by decide +kernel
theorem dX10_month_17 : decode cX10_month 17 = .ok (.dup2, 1) := by decide +kernel
theorem dX10_month_18 : decode cX10_month 18 = .ok (.iaload, 1) := by decide +kernel
theorem dX10_month_19 : decode cX10_month 19 = .ok (.iconst 1, 1) := by decide +kernel
theorem dX10_month_20 : decode cX10_month 20 = .ok (.iadd, 1) := by decide +kernel
theorem dX10_month_21 : decode cX10_month 21 = .ok (.iastore, 1) := by decide +kernel
theorem dX10_month_22 : decode cX10_month 22 = .ok (.aload_n 0, 1) := by decide +kernel
theorem dX10_month_23 : decode cX10_month 23 = .ok (.getfield 60, 3) := by decide +kernel
theorem dX10_month_26 : decode cX10_month 26 = .ok (.iconst 4, 1) := by decide +kernel
theorem dX10_month_27 : decode cX10_month 27 = .ok (.dup2, 1) := by decide +kernel
theorem dX10_month_28 : decode cX10_month 28 = .ok (.iaload, 1) := by decide +kernel
theorem dX10_month_29 : decode cX10_month 29 = .ok (.iload_n 1, 1) := by decide +kernel
theorem dX10_month_30 : decode cX10_month 30 = .ok (.iadd, 1) := by decide +kernel
theorem dX10_month_31 : decode cX10_month 31 = .ok (.iastore, 1) := by decide +kernel
theorem dX10_month_32 : decode cX10_month 32 = .ok (.iload_n 1, 1) := by decide +kernel
theorem dX10_month_33 : decode cX10_month 33 = .ok (.ireturn, 1) := by decide +kernel
theorem dX10_pull_0 : decode cX10_pull 0 = .ok (.iload_n 1, 1) := by decide +kernel
theorem dX10_pull_1 : decode cX10_pull 1 = .ok (.iconst 0, 1) := by decide +kernel
theorem dX10_pull_2 : decode cX10_pull 2 = .ok (.bipush 9, 2) := by decide +kernel
theorem dX10_pull_4 : decode cX10_pull 4 = .ok (.invokestatic 103, 3) := by decide +kernel
theorem dX10_pull_7 : decode cX10_pull 7 = .ok (.ifCond .ne 5, 3) := by decide +kernel
theorem dX10_pull_10 : decode cX10_pull 10 = .ok (.iconst (-1), 1) := by decide +kernel
theorem dX10_pull_11 : decode cX10_pull 11 = .ok (.ireturn, 1) := by decide +kernel
theorem dX10_pull_12 : decode cX10_pull 12 = .ok (.aload_n 0, 1) := by decide +kernel
theorem dX10_pull_13 : decode cX10_pull 13 = .ok (.iload_n 1, 1) := by decide +kernel
theorem dX10_pull_14 : decode cX10_pull 14 = .ok (.invokevirtual 274, 3) := by decide +kernel
theorem dX10_pull_17 : decode cX10_pull 17 = .ok (.aload_n 0, 1) := by decide +kernel
theorem dX10_pull_18 : decode cX10_pull 18 = .ok (.getfield 60, 3) := by decide +kernel
theorem dX10_pull_21 : decode cX10_pull 21 = .ok (.iconst 1, 1) := by decide +kernel
theorem dX10_pull_22 : decode cX10_pull 22 = .ok (.dup2, 1) := by decide +kernel
theorem dX10_pull_23 : decode cX10_pull 23 = .ok (.iaload, 1) := by decide +kernel
theorem dX10_pull_24 : decode cX10_pull 24 = .ok (.iconst 1, 1) := by decide +kernel
theorem dX10_pull_25 : decode cX10_pull 25 = .ok (.iadd, 1) := by decide +kernel
theorem dX10_pull_26 : decode cX10_pull 26 = .ok (.iastore, 1) := by decide +kernel
theorem dX10_pull_27 : decode cX10_pull 27 = .ok (.aload_n 0, 1) := by decide +kernel
theorem dX10_pull_28 : decode cX10_pull 28 = .ok (.getfield 9, 3) := by decide +kernel
theorem dX10_pull_31 : decode cX10_pull 31 = .ok (.bipush 6, 2) := by decide +kernel
theorem dX10_pull_33 : decode cX10_pull 33 = .ok (.iload_n 1, 1) := by decide +kernel
theorem dX10_pull_34 : decode cX10_pull 34 = .ok (.iconst 2, 1) := by decide +kernel
theorem dX10_pull_35 : decode cX10_pull 35 = .ok (.idiv, 1) := by decide +kernel
theorem dX10_pull_36 : decode cX10_pull 36 = .ok (.imul, 1) := by decide +kernel
theorem dX10_pull_37 : decode cX10_pull 37 = .ok (.iaload, 1) := by decide +kernel
theorem dX10_pull_38 : decode cX10_pull 38 = .ok (.ireturn, 1) := by decide +kernel
theorem dX10_shake_0 : decode cX10_shake 0 = .ok (.iload_n 1, 1) := by decide +kernel
theorem dX10_shake_1 : decode cX10_shake 1 = .ok (.invokestatic 280, 3) := by decide +kernel
theorem dX10_shake_4 : decode cX10_shake 4 = .ok (.ifCond .ne 5, 3) := by decide +kernel
theorem dX10_shake_7 : decode cX10_shake 7 = .ok (.iconst (-1), 1) := by decide +kernel
theorem dX10_shake_8 : decode cX10_shake 8 = .ok (.ireturn, 1) := by decide +kernel
theorem dX10_shake_9 : decode cX10_shake 9 = .ok (.aload_n 0, 1) := by decide +kernel
theorem dX10_shake_10 : decode cX10_shake 10 = .ok (.iload_n 1, 1) := by decide +kernel
theorem dX10_shake_11 : decode cX10_shake 11 = .ok (.invokevirtual 283, 3) := by decide +kernel
theorem dX10_shake_14 : decode cX10_shake 14 = .ok (.aload_n 0, 1) := by decide +kernel
theorem dX10_shake_15 : decode cX10_shake 15 = .ok (.getfield 60, 3) := by decide +kernel
theorem dX10_shake_18 : decode cX10_shake 18 = .ok (.iconst 2, 1) := by decide +kernel
theorem dX10_shake_19 : decode cX10_shake 19 = .ok (.dup2, 1) := by decide +kernel
theorem dX10_shake_20 : decode cX10_shake 20 = .ok (.iaload, 1) := by decide +kernel
theorem dX10_shake_21 : decode cX10_shake 21 = .ok (.iconst 1, 1) := by decide +kernel
theorem dX10_shake_22 : decode cX10_shake 22 = .ok (.iadd, 1) := by decide +kernel
theorem dX10_shake_23 : decode cX10_shake 23 = .ok (.iastore, 1) := by decide +kernel
theorem dX10_shake_24 : decode cX10_shake 24 = .ok (.aload_n 0, 1) := by decide +kernel
theorem dX10_shake_25 : decode cX10_shake 25 = .ok (.getfield 15, 3) := by decide +kernel
theorem dX10_shake_28 : decode cX10_shake 28 = .ok (.iload_n 1, 1) := by decide +kernel
theorem dX10_shake_29 : decode cX10_shake 29 = .ok (.iaload, 1) := by decide +kernel
theorem dX10_shake_30 : decode cX10_shake 30 = .ok (.ireturn, 1) := by decide +kernel
theorem dX10_stuff_0 : decode cX10_stuff 0 = .ok (.iload_n 1, 1) := by decide +kernel
theorem dX10_stuff_1 : decode cX10_stuff 1 = .ok (.invokestatic 111, 3) := by decide +kernel
theorem dX10_stuff_4 : decode cX10_stuff 4 = .ok (.ifCond .eq 26, 3) := by decide +kernel
theorem dX10_stuff_7 : decode cX10_stuff 7 = .ok (.iload_n 2, 1) := by decide +kernel
theorem dX10_stuff_8 : decode cX10_stuff 8 = .ok (.ifCond .lt 22, 3) := by decide +kernel
theorem dX10_stuff_11 : decode cX10_stuff 11 = .ok (.iload_n 2, 1) := by decide +kernel
theorem dX10_stuff_12 : decode cX10_stuff 12 = .ok (.bipush 10, 2) := by decide +kernel
theorem dX10_stuff_14 : decode cX10_stuff 14 = .ok (.idiv, 1) := by decide +kernel
theorem dX10_stuff_15 : decode cX10_stuff 15 = .ok (.iconst 1, 1) := by decide +kernel
theorem dX10_stuff_16 : decode cX10_stuff 16 = .ok (.iconst 4, 1) := by decide +kernel
theorem dX10_stuff_17 : decode cX10_stuff 17 = .ok (.invokestatic 103, 3) := by decide +kernel
theorem dX10_stuff_20 : decode cX10_stuff 20 = .ok (.ifCond .eq 10, 3) := by decide +kernel
theorem dX10_stuff_23 : decode cX10_stuff 23 = .ok (.iload_n 2, 1) := by decide +kernel
theorem dX10_stuff_24 : decode cX10_stuff 24 = .ok (.bipush 10, 2) := by decide +kernel
theorem dX10_stuff_26 : decode cX10_stuff 26 = .ok (.irem, 1) := by decide +kernel
theorem dX10_stuff_27 : decode cX10_stuff 27 = .ok (.ifCond .ne 5, 3) := by decide +kernel
theorem dX10_stuff_30 : decode cX10_stuff 30 = .ok (.iconst (-1), 1) := by decide +kernel
theorem dX10_stuff_31 : decode cX10_stuff 31 = .ok (.ireturn, 1) := by decide +kernel
theorem dX10_stuff_32 : decode cX10_stuff 32 = .ok (.aload_n 0, 1) := by decide +kernel
theorem dX10_stuff_33 : decode cX10_stuff 33 = .ok (.getfield 9, 3) := by decide +kernel
theorem dX10_stuff_36 : decode cX10_stuff 36 = .ok (.iload_n 1, 1) := by decide +kernel
theorem dX10_stuff_37 : decode cX10_stuff 37 = .ok (.iaload, 1) := by decide +kernel
theorem dX10_stuff_38 : decode cX10_stuff 38 = .ok (.istore_n 3, 1) := by decide +kernel
theorem dX10_stuff_39 : decode cX10_stuff 39 = .ok (.aload_n 0, 1) := by decide +kernel
theorem dX10_stuff_40 : decode cX10_stuff 40 = .ok (.iload_n 1, 1) := by decide +kernel
theorem dX10_stuff_41 : decode cX10_stuff 41 = .ok (.iload_n 2, 1) := by decide +kernel
theorem dX10_stuff_42 : decode cX10_stuff 42 = .ok (.bipush 10, 2) := by decide +kernel
theorem dX10_stuff_44 : decode cX10_stuff 44 = .ok (.idiv, 1) := by decide +kernel
theorem dX10_stuff_45 : decode cX10_stuff 45 = .ok (.iload_n 2, 1) := by decide +kernel
theorem dX10_stuff_46 : decode cX10_stuff 46 = .ok (.bipush 10, 2) := by decide +kernel
theorem dX10_stuff_48 : decode cX10_stuff 48 = .ok (.irem, 1) := by decide +kernel
theorem dX10_stuff_49 : decode cX10_stuff 49 = .ok (.invokevirtual 291, 3) := by decide +kernel
theorem dX10_stuff_52 : decode cX10_stuff 52 = .ok (.aload_n 0, 1) := by decide +kernel
theorem dX10_stuff_53 : decode cX10_stuff 53 = .ok (.getfield 60, 3) := by decide +kernel
theorem dX10_stuff_56 : decode cX10_stuff 56 = .ok (.iconst 3, 1) := by decide +kernel
theorem dX10_stuff_57 : decode cX10_stuff 57 = .ok (.dup2, 1) := by decide +kernel
theorem dX10_stuff_58 : decode cX10_stuff 58 = .ok (.iaload, 1) := by decide +kernel
theorem dX10_stuff_59 : decode cX10_stuff 59 = .ok (.iconst 1, 1) := by decide +kernel
theorem dX10_stuff_60 : decode cX10_stuff 60 = .ok (.iadd, 1) := by decide +kernel
theorem dX10_stuff_61 : decode cX10_stuff 61 = .ok (.iastore, 1) := by decide +kernel
theorem dX10_stuff_62 : decode cX10_stuff 62 = .ok (.iload_n 3, 1) := by decide +kernel
theorem dX10_stuff_63 : decode cX10_stuff 63 = .ok (.ireturn, 1) := by decide +kernel
theorem dX10_led_0 : decode cX10_led 0 = .ok (.iload_n 1, 1) := by decide +kernel
theorem dX10_led_1 : decode cX10_led 1 = .ok (.iconst 0, 1) := by decide +kernel
theorem dX10_led_2 : decode cX10_led 2 = .ok (.iconst 4, 1) := by decide +kernel
theorem dX10_led_3 : decode cX10_led 3 = .ok (.invokestatic 103, 3) := by decide +kernel
theorem dX10_led_6 : decode cX10_led 6 = .ok (.ifCond .eq 12, 3) := by decide +kernel
theorem dX10_led_9 : decode cX10_led 9 = .ok (.aload_n 0, 1) := by decide +kernel
theorem dX10_led_10 : decode cX10_led 10 = .ok (.getfield 60, 3) := by decide +kernel
theorem dX10_led_13 : decode cX10_led 13 = .ok (.iload_n 1, 1) := by decide +kernel
theorem dX10_led_14 : decode cX10_led 14 = .ok (.iaload, 1) := by decide +kernel
theorem dX10_led_15 : decode cX10_led 15 = .ok (.goto 4, 3) := by decide +kernel
theorem dX10_led_18 : decode cX10_led 18 = .ok (.iconst (-1), 1) := by decide +kernel
theorem dX10_led_19 : decode cX10_led 19 = .ok (.ireturn, 1) := by decide +kernel
theorem dX10_image_0 : decode cX10_image 0 = .ok (.aload_n 0, 1) := by decide +kernel
theorem dX10_image_1 : decode cX10_image 1 = .ok (.iconst 1, 1) := by decide +kernel
theorem dX10_image_2 : decode cX10_image 2 = .ok (.putfield 313, 3) := by decide +kernel
theorem dX10_image_5 : decode cX10_image 5 = .ok (.aload_n 0, 1) := by decide +kernel
theorem dX10_image_6 : decode cX10_image 6 = .ok (.aload_n 0, 1) := by decide +kernel
theorem dX10_image_7 : decode cX10_image 7 = .ok (.getfield 63, 3) := by decide +kernel
theorem dX10_image_10 : decode cX10_image 10 = .ok (.invokevirtual 257, 3) := by decide +kernel
theorem dX10_image_13 : decode cX10_image 13 = .ok (.iconst 0, 1) := by decide +kernel
theorem dX10_image_14 : decode cX10_image 14 = .ok (.istore_n 1, 1) := by decide +kernel
theorem dX10_image_15 : decode cX10_image 15 = .ok (.iload_n 1, 1) := by decide +kernel
theorem dX10_image_16 : decode cX10_image 16 = .ok (.iconst 5, 1) := by decide +kernel
theorem dX10_image_17 : decode cX10_image 17 = .ok (.if_icmp .ge 21, 3) := by decide +kernel
theorem dX10_image_20 : decode cX10_image 20 = .ok (.aload_n 0, 1) := by decide +kernel
theorem dX10_image_21 : decode cX10_image 21 = .ok (.getfield 66, 3) := by decide +kernel
theorem dX10_image_24 : decode cX10_image 24 = .ok (.iload_n 1, 1) := by decide +kernel
theorem dX10_image_25 : decode cX10_image 25 = .ok (.aload_n 0, 1) := by decide +kernel
theorem dX10_image_26 : decode cX10_image 26 = .ok (.getfield 60, 3) := by decide +kernel
theorem dX10_image_29 : decode cX10_image 29 = .ok (.iload_n 1, 1) := by decide +kernel
theorem dX10_image_30 : decode cX10_image 30 = .ok (.iaload, 1) := by decide +kernel
theorem dX10_image_31 : decode cX10_image 31 = .ok (.iastore, 1) := by decide +kernel
theorem dX10_image_32 : decode cX10_image 32 = .ok (.iinc 1 1, 3) := by decide +kernel
theorem dX10_image_35 : decode cX10_image 35 = .ok (.goto (-20), 3) := by decide +kernel
theorem dX10_image_38 : decode cX10_image 38 = .ok (.aload_n 0, 1) := by decide +kernel
theorem dX10_image_39 : decode cX10_image 39 = .ok (.getfield 60, 3) := by decide +kernel
theorem dX10_image_42 : decode cX10_image 42 = .ok (.iconst 0, 1) := by decide +kernel
theorem dX10_image_43 : decode cX10_image 43 = .ok (.iaload, 1) := by decide +kernel
theorem dX10_image_44 : decode cX10_image 44 = .ok (.ireturn, 1) := by decide +kernel
theorem dX10_back_0 : decode cX10_back 0 = .ok (.aload_n 0, 1) := by decide +kernel
theorem dX10_back_1 : decode cX10_back 1 = .ok (.getfield 313, 3) := by decide +kernel
theorem dX10_back_4 : decode cX10_back 4 = .ok (.ifCond .ne 6, 3) := by decide +kernel
theorem dX10_back_7 : decode cX10_back 7 = .ok (.bipush (-5), 2) := by decide +kernel
theorem dX10_back_9 : decode cX10_back 9 = .ok (.ireturn, 1) := by decide +kernel
theorem dX10_back_10 : decode cX10_back 10 = .ok (.aload_n 0, 1) := by decide +kernel
theorem dX10_back_11 : decode cX10_back 11 = .ok (.aload_n 0, 1) := by decide +kernel
theorem dX10_back_12 : decode cX10_back 12 = .ok (.getfield 63, 3) := by decide +kernel
theorem dX10_back_15 : decode cX10_back 15 = .ok (.invokevirtual 265, 3) := by decide +kernel
theorem dX10_back_18 : decode cX10_back 18 = .ok (.iconst 0, 1) := by decide +kernel
theorem dX10_back_19 : decode cX10_back 19 = .ok (.istore_n 1, 1) := by decide +kernel
theorem dX10_back_20 : decode cX10_back 20 = .ok (.iload_n 1, 1) := by decide +kernel
theorem dX10_back_21 : decode cX10_back 21 = .ok (.iconst 5, 1) := by decide +kernel
theorem dX10_back_22 : decode cX10_back 22 = .ok (.if_icmp .ge 21, 3) := by decide +kernel
theorem dX10_back_25 : decode cX10_back 25 = .ok (.aload_n 0, 1) := by decide +kernel
theorem dX10_back_26 : decode cX10_back 26 = .ok (.getfield 60, 3) := by decide +kernel
theorem dX10_back_29 : decode cX10_back 29 = .ok (.iload_n 1, 1) := by decide +kernel
theorem dX10_back_30 : decode cX10_back 30 = .ok (.aload_n 0, 1) := by decide +kernel
theorem dX10_back_31 : decode cX10_back 31 = .ok (.getfield 66, 3) := by decide +kernel
theorem dX10_back_34 : decode cX10_back 34 = .ok (.iload_n 1, 1) := by decide +kernel
theorem dX10_back_35 : decode cX10_back 35 = .ok (.iaload, 1) := by decide +kernel
theorem dX10_back_36 : decode cX10_back 36 = .ok (.iastore, 1) := by decide +kernel
theorem dX10_back_37 : decode cX10_back 37 = .ok (.iinc 1 1, 3) := by decide +kernel
theorem dX10_back_40 : decode cX10_back 40 = .ok (.goto (-20), 3) := by decide +kernel
theorem dX10_back_43 : decode cX10_back 43 = .ok (.aload_n 0, 1) := by decide +kernel
theorem dX10_back_44 : decode cX10_back 44 = .ok (.getfield 60, 3) := by decide +kernel
theorem dX10_back_47 : decode cX10_back 47 = .ok (.iconst 0, 1) := by decide +kernel
theorem dX10_back_48 : decode cX10_back 48 = .ok (.iaload, 1) := by decide +kernel
theorem dX10_back_49 : decode cX10_back 49 = .ok (.ireturn, 1) := by decide +kernel
theorem dX10_above_0 : decode cX10_above 0 = .ok (.iload_n 0, 1) := by decide +kernel
theorem dX10_above_1 : decode cX10_above 1 = .ok (.tableswitch 43 3 7 #[35, 37, 39, 43, 41], 35) := by decide +kernel
theorem dX10_above_36 : decode cX10_above 36 = .ok (.iconst 2, 1) := by decide +kernel
theorem dX10_above_37 : decode cX10_above 37 = .ok (.ireturn, 1) := by decide +kernel
theorem dX10_above_38 : decode cX10_above 38 = .ok (.iconst 1, 1) := by decide +kernel
theorem dX10_above_39 : decode cX10_above 39 = .ok (.ireturn, 1) := by decide +kernel
theorem dX10_above_40 : decode cX10_above 40 = .ok (.iconst 3, 1) := by decide +kernel
theorem dX10_above_41 : decode cX10_above 41 = .ok (.ireturn, 1) := by decide +kernel
theorem dX10_above_42 : decode cX10_above 42 = .ok (.iconst 4, 1) := by decide +kernel
theorem dX10_above_43 : decode cX10_above 43 = .ok (.ireturn, 1) := by decide +kernel
theorem dX10_above_44 : decode cX10_above 44 = .ok (.iconst 0, 1) := by decide +kernel
theorem dX10_above_45 : decode cX10_above 45 = .ok (.ireturn, 1) := by decide +kernel
theorem dX10_ran_0 : decode cX10_ran 0 = .ok (.aload_n 0, 1) := by decide +kernel
theorem dX10_ran_1 : decode cX10_ran 1 = .ok (.getfield 316, 3) := by decide +kernel
theorem dX10_ran_4 : decode cX10_ran 4 = .ok (.bipush 24, 2) := by decide +kernel
theorem dX10_ran_6 : decode cX10_ran 6 = .ok (.if_icmp .ge 13, 3) := by decide +kernel
theorem dX10_ran_9 : decode cX10_ran 9 = .ok (.aload_n 0, 1) := by decide +kernel
theorem dX10_ran_10 : decode cX10_ran 10 = .ok (.getfield 75, 3) := by decide +kernel
theorem dX10_ran_13 : decode cX10_ran 13 = .ok (.aload_n 0, 1) := by decide +kernel
theorem dX10_ran_14 : decode cX10_ran 14 = .ok (.getfield 316, 3) := by decide +kernel
theorem dX10_ran_17 : decode cX10_ran 17 = .ok (.iload_n 1, 1) := by decide +kernel
theorem dX10_ran_18 : decode cX10_ran 18 = .ok (.iastore, 1) := by decide +kernel
theorem dX10_ran_19 : decode cX10_ran 19 = .ok (.aload_n 0, 1) := by decide +kernel
theorem dX10_ran_20 : decode cX10_ran 20 = .ok (.dup, 1) := by decide +kernel
theorem dX10_ran_21 : decode cX10_ran 21 = .ok (.getfield 316, 3) := by decide +kernel
theorem dX10_ran_24 : decode cX10_ran 24 = .ok (.iconst 1, 1) := by decide +kernel
theorem dX10_ran_25 : decode cX10_ran 25 = .ok (.iadd, 1) := by decide +kernel
theorem dX10_ran_26 : decode cX10_ran 26 = .ok (.putfield 316, 3) := by decide +kernel
theorem dX10_ran_29 : decode cX10_ran 29 = .ok (.return_, 1) := by decide +kernel
theorem dX10_warmsBy_0 : decode cX10_warmsBy 0 = .ok (.iload_n 2, 1) := by decide +kernel
theorem dX10_warmsBy_1 : decode cX10_warmsBy 1 = .ok (.lookupswitch 76 #[(0, 35), (1, 44), (6, 60)], 35) := by decide +kernel
theorem dX10_warmsBy_36 : decode cX10_warmsBy 36 = .ok (.aload_n 0, 1) := by decide +kernel
theorem dX10_warmsBy_37 : decode cX10_warmsBy 37 = .ok (.iconst 1, 1) := by decide +kernel
theorem dX10_warmsBy_38 : decode cX10_warmsBy 38 = .ok (.invokevirtual 319, 3) := by decide +kernel
theorem dX10_warmsBy_41 : decode cX10_warmsBy 41 = .ok (.iload_n 3, 1) := by decide +kernel
theorem dX10_warmsBy_42 : decode cX10_warmsBy 42 = .ok (.iload_n 1, 1) := by decide +kernel
theorem dX10_warmsBy_43 : decode cX10_warmsBy 43 = .ok (.iadd, 1) := by decide +kernel
theorem dX10_warmsBy_44 : decode cX10_warmsBy 44 = .ok (.ireturn, 1) := by decide +kernel
theorem dX10_warmsBy_45 : decode cX10_warmsBy 45 = .ok (.aload_n 0, 1) := by decide +kernel
theorem dX10_warmsBy_46 : decode cX10_warmsBy 46 = .ok (.bipush 20, 2) := by decide +kernel
theorem dX10_warmsBy_48 : decode cX10_warmsBy 48 = .ok (.invokevirtual 319, 3) := by decide +kernel
theorem dX10_warmsBy_51 : decode cX10_warmsBy 51 = .ok (.aload_n 0, 1) := by decide +kernel
theorem dX10_warmsBy_52 : decode cX10_warmsBy 52 = .ok (.iload_n 1, 1) := by decide +kernel
theorem dX10_warmsBy_53 : decode cX10_warmsBy 53 = .ok (.iconst 0, 1) := by decide +kernel
theorem dX10_warmsBy_54 : decode cX10_warmsBy 54 = .ok (.iload_n 3, 1) := by decide +kernel
theorem dX10_warmsBy_55 : decode cX10_warmsBy 55 = .ok (.invokevirtual 322, 3) := by decide +kernel
theorem dX10_warmsBy_58 : decode cX10_warmsBy 58 = .ok (.iconst 3, 1) := by decide +kernel
theorem dX10_warmsBy_59 : decode cX10_warmsBy 59 = .ok (.iadd, 1) := by decide +kernel
theorem dX10_warmsBy_60 : decode cX10_warmsBy 60 = .ok (.ireturn, 1) := by decide +kernel
theorem dX10_warmsBy_61 : decode cX10_warmsBy 61 = .ok (.aload_n 0, 1) := by decide +kernel
theorem dX10_warmsBy_62 : decode cX10_warmsBy 62 = .ok (.bipush 70, 2) := by decide +kernel
theorem dX10_warmsBy_64 : decode cX10_warmsBy 64 = .ok (.invokevirtual 319, 3) := by decide +kernel
theorem dX10_warmsBy_67 : decode cX10_warmsBy 67 = .ok (.aload_n 0, 1) := by decide +kernel
theorem dX10_warmsBy_68 : decode cX10_warmsBy 68 = .ok (.iload_n 1, 1) := by decide +kernel
theorem dX10_warmsBy_69 : decode cX10_warmsBy 69 = .ok (.iconst 0, 1) := by decide +kernel
theorem dX10_warmsBy_70 : decode cX10_warmsBy 70 = .ok (.iload_n 3, 1) := by decide +kernel
theorem dX10_warmsBy_71 : decode cX10_warmsBy 71 = .ok (.invokevirtual 322, 3) := by decide +kernel
theorem dX10_warmsBy_74 : decode cX10_warmsBy 74 = .ok (.iconst 2, 1) := by decide +kernel
theorem dX10_warmsBy_75 : decode cX10_warmsBy 75 = .ok (.imul, 1) := by decide +kernel
theorem dX10_warmsBy_76 : decode cX10_warmsBy 76 = .ok (.ireturn, 1) := by decide +kernel
theorem dX10_warmsBy_77 : decode cX10_warmsBy 77 = .ok (.aload_n 0, 1) := by decide +kernel
theorem dX10_warmsBy_78 : decode cX10_warmsBy 78 = .ok (.iload_n 1, 1) := by decide +kernel
theorem dX10_warmsBy_79 : decode cX10_warmsBy 79 = .ok (.iload_n 2, 1) := by decide +kernel
theorem dX10_warmsBy_80 : decode cX10_warmsBy 80 = .ok (.invokestatic 325, 3) := by decide +kernel
theorem dX10_warmsBy_83 : decode cX10_warmsBy 83 = .ok (.iload_n 3, 1) := by decide +kernel
theorem dX10_warmsBy_84 : decode cX10_warmsBy 84 = .ok (.invokevirtual 322, 3) := by decide +kernel
theorem dX10_warmsBy_87 : decode cX10_warmsBy 87 = .ok (.ireturn, 1) := by decide +kernel
theorem dX10_slipsBy_0 : decode cX10_slipsBy 0 = .ok (.iload_n 2, 1) := by decide +kernel
theorem dX10_slipsBy_1 : decode cX10_slipsBy 1 = .ok (.tableswitch 130 0 7 #[47, 130, 68, 83, 130, 130, 130, 99], 47) := by decide +kernel
theorem dX10_slipsBy_48 : decode cX10_slipsBy 48 = .ok (.aload_n 0, 1) := by decide +kernel
theorem dX10_slipsBy_49 : decode cX10_slipsBy 49 = .ok (.bipush 10, 2) := by decide +kernel
theorem dX10_slipsBy_51 : decode cX10_slipsBy 51 = .ok (.invokevirtual 319, 3) := by decide +kernel
theorem dX10_slipsBy_54 : decode cX10_slipsBy 54 = .ok (.aload_n 0, 1) := by decide +kernel
theorem dX10_slipsBy_55 : decode cX10_slipsBy 55 = .ok (.iload_n 1, 1) := by decide +kernel
theorem dX10_slipsBy_56 : decode cX10_slipsBy 56 = .ok (.aload_n 0, 1) := by decide +kernel
theorem dX10_slipsBy_57 : decode cX10_slipsBy 57 = .ok (.getfield 72, 3) := by decide +kernel
theorem dX10_slipsBy_60 : decode cX10_slipsBy 60 = .ok (.iload_n 1, 1) := by decide +kernel
theorem dX10_slipsBy_61 : decode cX10_slipsBy 61 = .ok (.iaload, 1) := by decide +kernel
theorem dX10_slipsBy_62 : decode cX10_slipsBy 62 = .ok (.iload_n 3, 1) := by decide +kernel
theorem dX10_slipsBy_63 : decode cX10_slipsBy 63 = .ok (.invokevirtual 322, 3) := by decide +kernel
theorem dX10_slipsBy_66 : decode cX10_slipsBy 66 = .ok (.iconst 2, 1) := by decide +kernel
theorem dX10_slipsBy_67 : decode cX10_slipsBy 67 = .ok (.imul, 1) := by decide +kernel
theorem dX10_slipsBy_68 : decode cX10_slipsBy 68 = .ok (.ireturn, 1) := by decide +kernel
theorem dX10_slipsBy_69 : decode cX10_slipsBy 69 = .ok (.aload_n 0, 1) := by decide +kernel
theorem dX10_slipsBy_70 : decode cX10_slipsBy 70 = .ok (.bipush 30, 2) := by decide +kernel
theorem dX10_slipsBy_72 : decode cX10_slipsBy 72 = .ok (.invokevirtual 319, 3) := by decide +kernel
theorem dX10_slipsBy_75 : decode cX10_slipsBy 75 = .ok (.aload_n 0, 1) := by decide +kernel
theorem dX10_slipsBy_76 : decode cX10_slipsBy 76 = .ok (.iload_n 1, 1) := by decide +kernel
theorem dX10_slipsBy_77 : decode cX10_slipsBy 77 = .ok (.iconst 0, 1) := by decide +kernel
theorem dX10_slipsBy_78 : decode cX10_slipsBy 78 = .ok (.iload_n 3, 1) := by decide +kernel
theorem dX10_slipsBy_79 : decode cX10_slipsBy 79 = .ok (.invokevirtual 328, 3) := by decide +kernel
theorem dX10_slipsBy_82 : decode cX10_slipsBy 82 = .ok (.ineg, 1) := by decide +kernel
theorem dX10_slipsBy_83 : decode cX10_slipsBy 83 = .ok (.ireturn, 1) := by decide +kernel
theorem dX10_slipsBy_84 : decode cX10_slipsBy 84 = .ok (.aload_n 0, 1) := by decide +kernel
theorem dX10_slipsBy_85 : decode cX10_slipsBy 85 = .ok (.bipush 41, 2) := by decide +kernel
theorem dX10_slipsBy_87 : decode cX10_slipsBy 87 = .ok (.invokevirtual 319, 3) := by decide +kernel
theorem dX10_slipsBy_90 : decode cX10_slipsBy 90 = .ok (.aload_n 0, 1) := by decide +kernel
theorem dX10_slipsBy_91 : decode cX10_slipsBy 91 = .ok (.iload_n 1, 1) := by decide +kernel
theorem dX10_slipsBy_92 : decode cX10_slipsBy 92 = .ok (.iconst 2, 1) := by decide +kernel
theorem dX10_slipsBy_93 : decode cX10_slipsBy 93 = .ok (.iload_n 3, 1) := by decide +kernel
theorem dX10_slipsBy_94 : decode cX10_slipsBy 94 = .ok (.iconst 1, 1) := by decide +kernel
theorem dX10_slipsBy_95 : decode cX10_slipsBy 95 = .ok (.iadd, 1) := by decide +kernel
theorem dX10_slipsBy_96 : decode cX10_slipsBy 96 = .ok (.invokevirtual 328, 3) := by decide +kernel
theorem dX10_slipsBy_99 : decode cX10_slipsBy 99 = .ok (.ireturn, 1) := by decide +kernel
theorem dX10_slipsBy_100 : decode cX10_slipsBy 100 = .ok (.aload_n 0, 1) := by decide +kernel
theorem dX10_slipsBy_101 : decode cX10_slipsBy 101 = .ok (.bipush 80, 2) := by decide +kernel
theorem dX10_slipsBy_103 : decode cX10_slipsBy 103 = .ok (.invokevirtual 319, 3) := by decide +kernel
theorem dX10_slipsBy_106 : decode cX10_slipsBy 106 = .ok (.aload_n 0, 1) := by decide +kernel
theorem dX10_slipsBy_107 : decode cX10_slipsBy 107 = .ok (.iload_n 1, 1) := by decide +kernel
theorem dX10_slipsBy_108 : decode cX10_slipsBy 108 = .ok (.iconst 4, 1) := by decide +kernel
theorem dX10_slipsBy_109 : decode cX10_slipsBy 109 = .ok (.iload_n 3, 1) := by decide +kernel
theorem dX10_slipsBy_110 : decode cX10_slipsBy 110 = .ok (.invokevirtual 328, 3) := by decide +kernel
theorem dX10_slipsBy_113 : decode cX10_slipsBy 113 = .ok (.istore 4, 2) := by decide +kernel
theorem dX10_slipsBy_115 : decode cX10_slipsBy 115 = .ok (.iload 4, 2) := by decide +kernel
theorem dX10_slipsBy_117 : decode cX10_slipsBy 117 = .ok (.aload_n 0, 1) := by decide +kernel
theorem dX10_slipsBy_118 : decode cX10_slipsBy 118 = .ok (.iload_n 1, 1) := by decide +kernel
theorem dX10_slipsBy_119 : decode cX10_slipsBy 119 = .ok (.aload_n 0, 1) := by decide +kernel
theorem dX10_slipsBy_120 : decode cX10_slipsBy 120 = .ok (.getfield 72, 3) := by decide +kernel
theorem dX10_slipsBy_123 : decode cX10_slipsBy 123 = .ok (.iload_n 1, 1) := by decide +kernel
theorem dX10_slipsBy_124 : decode cX10_slipsBy 124 = .ok (.iaload, 1) := by decide +kernel
theorem dX10_slipsBy_125 : decode cX10_slipsBy 125 = .ok (.iconst 2, 1) := by decide +kernel
theorem dX10_slipsBy_126 : decode cX10_slipsBy 126 = .ok (.invokevirtual 331, 3) := by decide +kernel
theorem dX10_slipsBy_129 : decode cX10_slipsBy 129 = .ok (.iadd, 1) := by decide +kernel
theorem dX10_slipsBy_130 : decode cX10_slipsBy 130 = .ok (.ireturn, 1) := by decide +kernel
theorem dX10_slipsBy_131 : decode cX10_slipsBy 131 = .ok (.aload_n 0, 1) := by decide +kernel
theorem dX10_slipsBy_132 : decode cX10_slipsBy 132 = .ok (.iload_n 1, 1) := by decide +kernel
theorem dX10_slipsBy_133 : decode cX10_slipsBy 133 = .ok (.iload_n 2, 1) := by decide +kernel
theorem dX10_slipsBy_134 : decode cX10_slipsBy 134 = .ok (.invokestatic 325, 3) := by decide +kernel
theorem dX10_slipsBy_137 : decode cX10_slipsBy 137 = .ok (.iload_n 3, 1) := by decide +kernel
theorem dX10_slipsBy_138 : decode cX10_slipsBy 138 = .ok (.invokevirtual 328, 3) := by decide +kernel
theorem dX10_slipsBy_141 : decode cX10_slipsBy 141 = .ok (.ireturn, 1) := by decide +kernel
theorem dX10_airsBy_0 : decode cX10_airsBy 0 = .ok (.iload_n 2, 1) := by decide +kernel
theorem dX10_airsBy_1 : decode cX10_airsBy 1 = .ok (.tableswitch 92 0 4 #[35, 92, 92, 45, 61], 35) := by decide +kernel
theorem dX10_airsBy_36 : decode cX10_airsBy 36 = .ok (.aload_n 0, 1) := by decide +kernel
theorem dX10_airsBy_37 : decode cX10_airsBy 37 = .ok (.bipush 11, 2) := by decide +kernel
theorem dX10_airsBy_39 : decode cX10_airsBy 39 = .ok (.invokevirtual 319, 3) := by decide +kernel
theorem dX10_airsBy_42 : decode cX10_airsBy 42 = .ok (.iload_n 3, 1) := by decide +kernel
theorem dX10_airsBy_43 : decode cX10_airsBy 43 = .ok (.iload_n 1, 1) := by decide +kernel
theorem dX10_airsBy_44 : decode cX10_airsBy 44 = .ok (.ixor, 1) := by decide +kernel
theorem dX10_airsBy_45 : decode cX10_airsBy 45 = .ok (.ireturn, 1) := by decide +kernel
theorem dX10_airsBy_46 : decode cX10_airsBy 46 = .ok (.aload_n 0, 1) := by decide +kernel
theorem dX10_airsBy_47 : decode cX10_airsBy 47 = .ok (.bipush 40, 2) := by decide +kernel
theorem dX10_airsBy_49 : decode cX10_airsBy 49 = .ok (.invokevirtual 319, 3) := by decide +kernel
theorem dX10_airsBy_52 : decode cX10_airsBy 52 = .ok (.aload_n 0, 1) := by decide +kernel
theorem dX10_airsBy_53 : decode cX10_airsBy 53 = .ok (.iload_n 1, 1) := by decide +kernel
theorem dX10_airsBy_54 : decode cX10_airsBy 54 = .ok (.iconst 2, 1) := by decide +kernel
theorem dX10_airsBy_55 : decode cX10_airsBy 55 = .ok (.iload_n 3, 1) := by decide +kernel
theorem dX10_airsBy_56 : decode cX10_airsBy 56 = .ok (.invokevirtual 331, 3) := by decide +kernel
theorem dX10_airsBy_59 : decode cX10_airsBy 59 = .ok (.iconst 3, 1) := by decide +kernel
theorem dX10_airsBy_60 : decode cX10_airsBy 60 = .ok (.imul, 1) := by decide +kernel
theorem dX10_airsBy_61 : decode cX10_airsBy 61 = .ok (.ireturn, 1) := by decide +kernel
theorem dX10_airsBy_62 : decode cX10_airsBy 62 = .ok (.aload_n 0, 1) := by decide +kernel
theorem dX10_airsBy_63 : decode cX10_airsBy 63 = .ok (.bipush 50, 2) := by decide +kernel
theorem dX10_airsBy_65 : decode cX10_airsBy 65 = .ok (.invokevirtual 319, 3) := by decide +kernel
theorem dX10_airsBy_68 : decode cX10_airsBy 68 = .ok (.aload_n 0, 1) := by decide +kernel
theorem dX10_airsBy_69 : decode cX10_airsBy 69 = .ok (.iload_n 1, 1) := by decide +kernel
theorem dX10_airsBy_70 : decode cX10_airsBy 70 = .ok (.iconst 1, 1) := by decide +kernel
theorem dX10_airsBy_71 : decode cX10_airsBy 71 = .ok (.iload_n 3, 1) := by decide +kernel
theorem dX10_airsBy_72 : decode cX10_airsBy 72 = .ok (.invokevirtual 331, 3) := by decide +kernel
theorem dX10_airsBy_75 : decode cX10_airsBy 75 = .ok (.istore 4, 2) := by decide +kernel
theorem dX10_airsBy_77 : decode cX10_airsBy 77 = .ok (.iload 4, 2) := by decide +kernel
theorem dX10_airsBy_79 : decode cX10_airsBy 79 = .ok (.aload_n 0, 1) := by decide +kernel
theorem dX10_airsBy_80 : decode cX10_airsBy 80 = .ok (.iload_n 1, 1) := by decide +kernel
theorem dX10_airsBy_81 : decode cX10_airsBy 81 = .ok (.aload_n 0, 1) := by decide +kernel
theorem dX10_airsBy_82 : decode cX10_airsBy 82 = .ok (.getfield 72, 3) := by decide +kernel
theorem dX10_airsBy_85 : decode cX10_airsBy 85 = .ok (.iload_n 1, 1) := by decide +kernel
theorem dX10_airsBy_86 : decode cX10_airsBy 86 = .ok (.iaload, 1) := by decide +kernel
theorem dX10_airsBy_87 : decode cX10_airsBy 87 = .ok (.iconst 2, 1) := by decide +kernel
theorem dX10_airsBy_88 : decode cX10_airsBy 88 = .ok (.invokevirtual 322, 3) := by decide +kernel
theorem dX10_airsBy_91 : decode cX10_airsBy 91 = .ok (.isub, 1) := by decide +kernel
theorem dX10_airsBy_92 : decode cX10_airsBy 92 = .ok (.ireturn, 1) := by decide +kernel
theorem dX10_airsBy_93 : decode cX10_airsBy 93 = .ok (.aload_n 0, 1) := by decide +kernel
theorem dX10_airsBy_94 : decode cX10_airsBy 94 = .ok (.iload_n 1, 1) := by decide +kernel
theorem dX10_airsBy_95 : decode cX10_airsBy 95 = .ok (.iload_n 2, 1) := by decide +kernel
theorem dX10_airsBy_96 : decode cX10_airsBy 96 = .ok (.invokestatic 325, 3) := by decide +kernel
theorem dX10_airsBy_99 : decode cX10_airsBy 99 = .ok (.iload_n 3, 1) := by decide +kernel
theorem dX10_airsBy_100 : decode cX10_airsBy 100 = .ok (.invokevirtual 331, 3) := by decide +kernel
theorem dX10_airsBy_103 : decode cX10_airsBy 103 = .ok (.ireturn, 1) := by decide +kernel
theorem dX10_tells_0 : decode cX10_tells 0 = .ok (.iload_n 2, 1) := by decide +kernel
theorem dX10_tells_1 : decode cX10_tells 1 = .ok (.lookupswitch 102 #[(0, 35), (5, 70), (7, 86)], 35) := by decide +kernel
theorem dX10_tells_36 : decode cX10_tells 36 = .ok (.aload_n 0, 1) := by decide +kernel
theorem dX10_tells_37 : decode cX10_tells 37 = .ok (.iconst 2, 1) := by decide +kernel
theorem dX10_tells_38 : decode cX10_tells 38 = .ok (.invokevirtual 319, 3) := by decide +kernel
theorem dX10_tells_41 : decode cX10_tells 41 = .ok (.aload_n 0, 1) := by decide +kernel
theorem dX10_tells_42 : decode cX10_tells 42 = .ok (.iload_n 1, 1) := by decide +kernel
theorem dX10_tells_43 : decode cX10_tells 43 = .ok (.aload_n 0, 1) := by decide +kernel
theorem dX10_tells_44 : decode cX10_tells 44 = .ok (.getfield 72, 3) := by decide +kernel
theorem dX10_tells_47 : decode cX10_tells 47 = .ok (.iload_n 1, 1) := by decide +kernel
theorem dX10_tells_48 : decode cX10_tells 48 = .ok (.iaload, 1) := by decide +kernel
theorem dX10_tells_49 : decode cX10_tells 49 = .ok (.iload_n 3, 1) := by decide +kernel
theorem dX10_tells_50 : decode cX10_tells 50 = .ok (.invokevirtual 328, 3) := by decide +kernel
theorem dX10_tells_53 : decode cX10_tells 53 = .ok (.istore 4, 2) := by decide +kernel
theorem dX10_tells_55 : decode cX10_tells 55 = .ok (.iload 4, 2) := by decide +kernel
theorem dX10_tells_57 : decode cX10_tells 57 = .ok (.aload_n 0, 1) := by decide +kernel
theorem dX10_tells_58 : decode cX10_tells 58 = .ok (.iload_n 1, 1) := by decide +kernel
theorem dX10_tells_59 : decode cX10_tells 59 = .ok (.aload_n 0, 1) := by decide +kernel
theorem dX10_tells_60 : decode cX10_tells 60 = .ok (.getfield 72, 3) := by decide +kernel
theorem dX10_tells_63 : decode cX10_tells 63 = .ok (.iload_n 1, 1) := by decide +kernel
theorem dX10_tells_64 : decode cX10_tells 64 = .ok (.iaload, 1) := by decide +kernel
theorem dX10_tells_65 : decode cX10_tells 65 = .ok (.iconst 1, 1) := by decide +kernel
theorem dX10_tells_66 : decode cX10_tells 66 = .ok (.invokevirtual 331, 3) := by decide +kernel
theorem dX10_tells_69 : decode cX10_tells 69 = .ok (.isub, 1) := by decide +kernel
theorem dX10_tells_70 : decode cX10_tells 70 = .ok (.ireturn, 1) := by decide +kernel
theorem dX10_tells_71 : decode cX10_tells 71 = .ok (.aload_n 0, 1) := by decide +kernel
theorem dX10_tells_72 : decode cX10_tells 72 = .ok (.bipush 60, 2) := by decide +kernel
theorem dX10_tells_74 : decode cX10_tells 74 = .ok (.invokevirtual 319, 3) := by decide +kernel
theorem dX10_tells_77 : decode cX10_tells 77 = .ok (.aload_n 0, 1) := by decide +kernel
theorem dX10_tells_78 : decode cX10_tells 78 = .ok (.iload_n 1, 1) := by decide +kernel
theorem dX10_tells_79 : decode cX10_tells 79 = .ok (.iconst 3, 1) := by decide +kernel
theorem dX10_tells_80 : decode cX10_tells 80 = .ok (.iload_n 3, 1) := by decide +kernel
theorem dX10_tells_81 : decode cX10_tells 81 = .ok (.invokevirtual 334, 3) := by decide +kernel
theorem dX10_tells_84 : decode cX10_tells 84 = .ok (.iconst 5, 1) := by decide +kernel
theorem dX10_tells_85 : decode cX10_tells 85 = .ok (.ixor, 1) := by decide +kernel
theorem dX10_tells_86 : decode cX10_tells 86 = .ok (.ireturn, 1) := by decide +kernel
theorem dX10_tells_87 : decode cX10_tells 87 = .ok (.aload_n 0, 1) := by decide +kernel
theorem dX10_tells_88 : decode cX10_tells 88 = .ok (.bipush 81, 2) := by decide +kernel
theorem dX10_tells_90 : decode cX10_tells 90 = .ok (.invokevirtual 319, 3) := by decide +kernel
theorem dX10_tells_93 : decode cX10_tells 93 = .ok (.aload_n 0, 1) := by decide +kernel
theorem dX10_tells_94 : decode cX10_tells 94 = .ok (.iload_n 1, 1) := by decide +kernel
theorem dX10_tells_95 : decode cX10_tells 95 = .ok (.iconst 4, 1) := by decide +kernel
theorem dX10_tells_96 : decode cX10_tells 96 = .ok (.iload_n 3, 1) := by decide +kernel
theorem dX10_tells_97 : decode cX10_tells 97 = .ok (.invokevirtual 334, 3) := by decide +kernel
theorem dX10_tells_100 : decode cX10_tells 100 = .ok (.iconst 1, 1) := by decide +kernel
theorem dX10_tells_101 : decode cX10_tells 101 = .ok (.isub, 1) := by decide +kernel
theorem dX10_tells_102 : decode cX10_tells 102 = .ok (.ireturn, 1) := by decide +kernel
theorem dX10_tells_103 : decode cX10_tells 103 = .ok (.aload_n 0, 1) := by decide +kernel
theorem dX10_tells_104 : decode cX10_tells 104 = .ok (.iload_n 1, 1) := by decide +kernel
theorem dX10_tells_105 : decode cX10_tells 105 = .ok (.iload_n 2, 1) := by decide +kernel
theorem dX10_tells_106 : decode cX10_tells 106 = .ok (.invokestatic 325, 3) := by decide +kernel
theorem dX10_tells_109 : decode cX10_tells 109 = .ok (.iload_n 3, 1) := by decide +kernel
theorem dX10_tells_110 : decode cX10_tells 110 = .ok (.invokevirtual 334, 3) := by decide +kernel
theorem dX10_tells_113 : decode cX10_tells 113 = .ok (.ireturn, 1) := by decide +kernel
theorem dX10_body_0 : decode cX10_body 0 = .ok (.iload_n 1, 1) := by decide +kernel
theorem dX10_body_1 : decode cX10_body 1 = .ok (.iconst 0, 1) := by decide +kernel
theorem dX10_body_2 : decode cX10_body 2 = .ok (.bipush 7, 2) := by decide +kernel
theorem dX10_body_4 : decode cX10_body 4 = .ok (.invokestatic 103, 3) := by decide +kernel
theorem dX10_body_7 : decode cX10_body 7 = .ok (.ifCond .ne 5, 3) := by decide +kernel
theorem dX10_body_10 : decode cX10_body 10 = .ok (.iconst (-1), 1) := by decide +kernel
theorem dX10_body_11 : decode cX10_body 11 = .ok (.ireturn, 1) := by decide +kernel
theorem dX10_body_12 : decode cX10_body 12 = .ok (.aload_n 0, 1) := by decide +kernel
theorem dX10_body_13 : decode cX10_body 13 = .ok (.getfield 337, 3) := by decide +kernel
theorem dX10_body_16 : decode cX10_body 16 = .ok (.bipush 50, 2) := by decide +kernel
theorem dX10_body_18 : decode cX10_body 18 = .ok (.if_icmp .ne 6, 3) := by decide +kernel
theorem dX10_body_21 : decode cX10_body 21 = .ok (.bipush (-3), 2) := by decide +kernel
theorem dX10_body_23 : decode cX10_body 23 = .ok (.ireturn, 1) := by decide +kernel
theorem dX10_body_24 : decode cX10_body 24 = .ok (.aload_n 0, 1) := by decide +kernel
theorem dX10_body_25 : decode cX10_body 25 = .ok (.getfield 72, 3) := by decide +kernel
theorem dX10_body_28 : decode cX10_body 28 = .ok (.aload_n 0, 1) := by decide +kernel
theorem dX10_body_29 : decode cX10_body 29 = .ok (.getfield 337, 3) := by decide +kernel
theorem dX10_body_32 : decode cX10_body 32 = .ok (.iload_n 1, 1) := by decide +kernel
theorem dX10_body_33 : decode cX10_body 33 = .ok (.iastore, 1) := by decide +kernel
theorem dX10_body_34 : decode cX10_body 34 = .ok (.aload_n 0, 1) := by decide +kernel
theorem dX10_body_35 : decode cX10_body 35 = .ok (.dup, 1) := by decide +kernel
theorem dX10_body_36 : decode cX10_body 36 = .ok (.getfield 337, 3) := by decide +kernel
theorem dX10_body_39 : decode cX10_body 39 = .ok (.dup_x1, 1) := by decide +kernel
theorem dX10_body_40 : decode cX10_body 40 = .ok (.iconst 1, 1) := by decide +kernel
theorem dX10_body_41 : decode cX10_body 41 = .ok (.iadd, 1) := by decide +kernel
theorem dX10_body_42 : decode cX10_body 42 = .ok (.putfield 337, 3) := by decide +kernel
theorem dX10_body_45 : decode cX10_body 45 = .ok (.ireturn, 1) := by decide +kernel
theorem dX10_act_0 : decode cX10_act 0 = .ok (.aload_n 0, 1) := by decide +kernel
theorem dX10_act_1 : decode cX10_act 1 = .ok (.iconst 0, 1) := by decide +kernel
theorem dX10_act_2 : decode cX10_act 2 = .ok (.putfield 316, 3) := by decide +kernel
theorem dX10_act_5 : decode cX10_act 5 = .ok (.iload_n 1, 1) := by decide +kernel
theorem dX10_act_6 : decode cX10_act 6 = .ok (.iconst 0, 1) := by decide +kernel
theorem dX10_act_7 : decode cX10_act 7 = .ok (.aload_n 0, 1) := by decide +kernel
theorem dX10_act_8 : decode cX10_act 8 = .ok (.getfield 337, 3) := by decide +kernel
theorem dX10_act_11 : decode cX10_act 11 = .ok (.iconst 1, 1) := by decide +kernel
theorem dX10_act_12 : decode cX10_act 12 = .ok (.isub, 1) := by decide +kernel
theorem dX10_act_13 : decode cX10_act 13 = .ok (.invokestatic 103, 3) := by decide +kernel
theorem dX10_act_16 : decode cX10_act 16 = .ok (.ifCond .eq 12, 3) := by decide +kernel
theorem dX10_act_19 : decode cX10_act 19 = .ok (.iload_n 2, 1) := by decide +kernel
theorem dX10_act_20 : decode cX10_act 20 = .ok (.iconst 0, 1) := by decide +kernel
theorem dX10_act_21 : decode cX10_act 21 = .ok (.iconst 3, 1) := by decide +kernel
theorem dX10_act_22 : decode cX10_act 22 = .ok (.invokestatic 103, 3) := by decide +kernel
theorem dX10_act_25 : decode cX10_act 25 = .ok (.ifCond .ne 5, 3) := by decide +kernel
theorem dX10_act_28 : decode cX10_act 28 = .ok (.iconst 0, 1) := by decide +kernel
theorem dX10_act_29 : decode cX10_act 29 = .ok (.ireturn, 1) := by decide +kernel
theorem dX10_act_30 : decode cX10_act 30 = .ok (.aload_n 0, 1) := by decide +kernel
theorem dX10_act_31 : decode cX10_act 31 = .ok (.getfield 72, 3) := by decide +kernel
theorem dX10_act_34 : decode cX10_act 34 = .ok (.iload_n 1, 1) := by decide +kernel
theorem dX10_act_35 : decode cX10_act 35 = .ok (.iaload, 1) := by decide +kernel
theorem dX10_act_36 : decode cX10_act 36 = .ok (.istore 4, 2) := by decide +kernel
theorem dX10_act_38 : decode cX10_act 38 = .ok (.iload_n 2, 1) := by decide +kernel
theorem dX10_act_39 : decode cX10_act 39 = .ok (.ifCond .ne 14, 3) := by decide +kernel
theorem dX10_act_42 : decode cX10_act 42 = .ok (.aload_n 0, 1) := by decide +kernel
theorem dX10_act_43 : decode cX10_act 43 = .ok (.iload_n 1, 1) := by decide +kernel
theorem dX10_act_44 : decode cX10_act 44 = .ok (.iload 4, 2) := by decide +kernel
theorem dX10_act_46 : decode cX10_act 46 = .ok (.iload_n 3, 1) := by decide +kernel
theorem dX10_act_47 : decode cX10_act 47 = .ok (.invokevirtual 322, 3) := by decide +kernel
theorem dX10_act_50 : decode cX10_act 50 = .ok (.goto 43, 3) := by decide +kernel
theorem dX10_act_53 : decode cX10_act 53 = .ok (.iload_n 2, 1) := by decide +kernel
theorem dX10_act_54 : decode cX10_act 54 = .ok (.iconst 1, 1) := by decide +kernel
theorem dX10_act_55 : decode cX10_act 55 = .ok (.if_icmp .ne 14, 3) := by decide +kernel
theorem dX10_act_58 : decode cX10_act 58 = .ok (.aload_n 0, 1) := by decide +kernel
theorem dX10_act_59 : decode cX10_act 59 = .ok (.iload_n 1, 1) := by decide +kernel
theorem dX10_act_60 : decode cX10_act 60 = .ok (.iload 4, 2) := by decide +kernel
theorem dX10_act_62 : decode cX10_act 62 = .ok (.iload_n 3, 1) := by decide +kernel
theorem dX10_act_63 : decode cX10_act 63 = .ok (.invokevirtual 328, 3) := by decide +kernel
theorem dX10_act_66 : decode cX10_act 66 = .ok (.goto 27, 3) := by decide +kernel
theorem dX10_act_69 : decode cX10_act 69 = .ok (.iload_n 2, 1) := by decide +kernel
theorem dX10_act_70 : decode cX10_act 70 = .ok (.iconst 2, 1) := by decide +kernel
theorem dX10_act_71 : decode cX10_act 71 = .ok (.if_icmp .ne 14, 3) := by decide +kernel
theorem dX10_act_74 : decode cX10_act 74 = .ok (.aload_n 0, 1) := by decide +kernel
theorem dX10_act_75 : decode cX10_act 75 = .ok (.iload_n 1, 1) := by decide +kernel
theorem dX10_act_76 : decode cX10_act 76 = .ok (.iload 4, 2) := by decide +kernel
theorem dX10_act_78 : decode cX10_act 78 = .ok (.iload_n 3, 1) := by decide +kernel
theorem dX10_act_79 : decode cX10_act 79 = .ok (.invokevirtual 331, 3) := by decide +kernel
theorem dX10_act_82 : decode cX10_act 82 = .ok (.goto 11, 3) := by decide +kernel
theorem dX10_act_85 : decode cX10_act 85 = .ok (.aload_n 0, 1) := by decide +kernel
theorem dX10_act_86 : decode cX10_act 86 = .ok (.iload_n 1, 1) := by decide +kernel
theorem dX10_act_87 : decode cX10_act 87 = .ok (.iload 4, 2) := by decide +kernel
theorem dX10_act_89 : decode cX10_act 89 = .ok (.iload_n 3, 1) := by decide +kernel
theorem dX10_act_90 : decode cX10_act 90 = .ok (.invokevirtual 334, 3) := by decide +kernel
theorem dX10_act_93 : decode cX10_act 93 = .ok (.ireturn, 1) := by decide +kernel
theorem dX10_trace_0 : decode cX10_trace 0 = .ok (.iload_n 1, 1) := by decide +kernel
theorem dX10_trace_1 : decode cX10_trace 1 = .ok (.iconst 0, 1) := by decide +kernel
theorem dX10_trace_2 : decode cX10_trace 2 = .ok (.bipush 24, 2) := by decide +kernel
theorem dX10_trace_4 : decode cX10_trace 4 = .ok (.aload_n 0, 1) := by decide +kernel
theorem dX10_trace_5 : decode cX10_trace 5 = .ok (.getfield 316, 3) := by decide +kernel
theorem dX10_trace_8 : decode cX10_trace 8 = .ok (.invokestatic 227, 3) := by decide +kernel
theorem dX10_trace_11 : decode cX10_trace 11 = .ok (.iconst 1, 1) := by decide +kernel
theorem dX10_trace_12 : decode cX10_trace 12 = .ok (.isub, 1) := by decide +kernel
theorem dX10_trace_13 : decode cX10_trace 13 = .ok (.invokestatic 103, 3) := by decide +kernel
theorem dX10_trace_16 : decode cX10_trace 16 = .ok (.ifCond .eq 12, 3) := by decide +kernel
theorem dX10_trace_19 : decode cX10_trace 19 = .ok (.aload_n 0, 1) := by decide +kernel
theorem dX10_trace_20 : decode cX10_trace 20 = .ok (.getfield 75, 3) := by decide +kernel
theorem dX10_trace_23 : decode cX10_trace 23 = .ok (.iload_n 1, 1) := by decide +kernel
theorem dX10_trace_24 : decode cX10_trace 24 = .ok (.iaload, 1) := by decide +kernel
theorem dX10_trace_25 : decode cX10_trace 25 = .ok (.goto 4, 3) := by decide +kernel
theorem dX10_trace_28 : decode cX10_trace 28 = .ok (.iconst (-1), 1) := by decide +kernel
theorem dX10_trace_29 : decode cX10_trace 29 = .ok (.ireturn, 1) := by decide +kernel
theorem dX10_keep_0 : decode cX10_keep 0 = .ok (.iload_n 1, 1) := by decide +kernel
theorem dX10_keep_1 : decode cX10_keep 1 = .ok (.invokestatic 119, 3) := by decide +kernel
theorem dX10_keep_4 : decode cX10_keep 4 = .ok (.ifCond .eq 17, 3) := by decide +kernel
theorem dX10_keep_7 : decode cX10_keep 7 = .ok (.iload_n 2, 1) := by decide +kernel
theorem dX10_keep_8 : decode cX10_keep 8 = .ok (.iconst (-1), 1) := by decide +kernel
theorem dX10_keep_9 : decode cX10_keep 9 = .ok (.aload_n 0, 1) := by decide +kernel
theorem dX10_keep_10 : decode cX10_keep 10 = .ok (.getfield 337, 3) := by decide +kernel
theorem dX10_keep_13 : decode cX10_keep 13 = .ok (.iconst 1, 1) := by decide +kernel
theorem dX10_keep_14 : decode cX10_keep 14 = .ok (.isub, 1) := by decide +kernel
theorem dX10_keep_15 : decode cX10_keep 15 = .ok (.invokestatic 103, 3) := by decide +kernel
theorem dX10_keep_18 : decode cX10_keep 18 = .ok (.ifCond .ne 5, 3) := by decide +kernel
theorem dX10_keep_21 : decode cX10_keep 21 = .ok (.iconst (-1), 1) := by decide +kernel
theorem dX10_keep_22 : decode cX10_keep 22 = .ok (.ireturn, 1) := by decide +kernel
theorem dX10_keep_23 : decode cX10_keep 23 = .ok (.aload_n 0, 1) := by decide +kernel
theorem dX10_keep_24 : decode cX10_keep 24 = .ok (.getfield 78, 3) := by decide +kernel
theorem dX10_keep_27 : decode cX10_keep 27 = .ok (.iload_n 1, 1) := by decide +kernel
theorem dX10_keep_28 : decode cX10_keep 28 = .ok (.iload_n 2, 1) := by decide +kernel
theorem dX10_keep_29 : decode cX10_keep 29 = .ok (.ifCond .ge 7, 3) := by decide +kernel
theorem dX10_keep_32 : decode cX10_keep 32 = .ok (.iconst (-1), 1) := by decide +kernel
theorem dX10_keep_33 : decode cX10_keep 33 = .ok (.goto 7, 3) := by decide +kernel
theorem dX10_keep_36 : decode cX10_keep 36 = .ok (.bipush 10, 2) := by decide +kernel
theorem dX10_keep_38 : decode cX10_keep 38 = .ok (.iload_n 2, 1) := by decide +kernel
theorem dX10_keep_39 : decode cX10_keep 39 = .ok (.iadd, 1) := by decide +kernel
theorem dX10_keep_40 : decode cX10_keep 40 = .ok (.iastore, 1) := by decide +kernel
theorem dX10_keep_41 : decode cX10_keep 41 = .ok (.aload_n 0, 1) := by decide +kernel
theorem dX10_keep_42 : decode cX10_keep 42 = .ok (.getfield 81, 3) := by decide +kernel
theorem dX10_keep_45 : decode cX10_keep 45 = .ok (.iload_n 1, 1) := by decide +kernel
theorem dX10_keep_46 : decode cX10_keep 46 = .ok (.iconst 0, 1) := by decide +kernel
theorem dX10_keep_47 : decode cX10_keep 47 = .ok (.iastore, 1) := by decide +kernel
theorem dX10_keep_48 : decode cX10_keep 48 = .ok (.iconst 1, 1) := by decide +kernel
theorem dX10_keep_49 : decode cX10_keep 49 = .ok (.ireturn, 1) := by decide +kernel
theorem dX10_row_0 : decode cX10_row 0 = .ok (.iload_n 1, 1) := by decide +kernel
theorem dX10_row_1 : decode cX10_row 1 = .ok (.invokestatic 119, 3) := by decide +kernel
theorem dX10_row_4 : decode cX10_row 4 = .ok (.ifCond .eq 18, 3) := by decide +kernel
theorem dX10_row_7 : decode cX10_row 7 = .ok (.iload_n 2, 1) := by decide +kernel
theorem dX10_row_8 : decode cX10_row 8 = .ok (.iconst 0, 1) := by decide +kernel
theorem dX10_row_9 : decode cX10_row 9 = .ok (.iconst 4, 1) := by decide +kernel
theorem dX10_row_10 : decode cX10_row 10 = .ok (.invokestatic 103, 3) := by decide +kernel
theorem dX10_row_13 : decode cX10_row 13 = .ok (.ifCond .eq 9, 3) := by decide +kernel
theorem dX10_row_16 : decode cX10_row 16 = .ok (.iload_n 3, 1) := by decide +kernel
theorem dX10_row_17 : decode cX10_row 17 = .ok (.bipush 60, 2) := by decide +kernel
theorem dX10_row_19 : decode cX10_row 19 = .ok (.if_icmp .le 5, 3) := by decide +kernel
theorem dX10_row_22 : decode cX10_row 22 = .ok (.iconst (-1), 1) := by decide +kernel
theorem dX10_row_23 : decode cX10_row 23 = .ok (.ireturn, 1) := by decide +kernel
theorem dX10_row_24 : decode cX10_row 24 = .ok (.iload_n 3, 1) := by decide +kernel
theorem dX10_row_25 : decode cX10_row 25 = .ok (.ifCond .ge 6, 3) := by decide +kernel
theorem dX10_row_28 : decode cX10_row 28 = .ok (.bipush (-14), 2) := by decide +kernel
theorem dX10_row_30 : decode cX10_row 30 = .ok (.ireturn, 1) := by decide +kernel
theorem dX10_row_31 : decode cX10_row 31 = .ok (.aload_n 0, 1) := by decide +kernel
theorem dX10_row_32 : decode cX10_row 32 = .ok (.getfield 78, 3) := by decide +kernel
theorem dX10_row_35 : decode cX10_row 35 = .ok (.iload_n 1, 1) := by decide +kernel
theorem dX10_row_36 : decode cX10_row 36 = .ok (.iload_n 2, 1) := by decide +kernel
theorem dX10_row_37 : decode cX10_row 37 = .ok (.iastore, 1) := by decide +kernel
theorem dX10_row_38 : decode cX10_row 38 = .ok (.aload_n 0, 1) := by decide +kernel
theorem dX10_row_39 : decode cX10_row 39 = .ok (.getfield 81, 3) := by decide +kernel
theorem dX10_row_42 : decode cX10_row 42 = .ok (.iload_n 1, 1) := by decide +kernel
theorem dX10_row_43 : decode cX10_row 43 = .ok (.iload_n 3, 1) := by decide +kernel
theorem dX10_row_44 : decode cX10_row 44 = .ok (.iastore, 1) := by decide +kernel
theorem dX10_row_45 : decode cX10_row 45 = .ok (.iconst 0, 1) := by decide +kernel
theorem dX10_row_46 : decode cX10_row 46 = .ok (.istore 4, 2) := by decide +kernel
theorem dX10_row_48 : decode cX10_row 48 = .ok (.iload 4, 2) := by decide +kernel
theorem dX10_row_50 : decode cX10_row 50 = .ok (.bipush 60, 2) := by decide +kernel
theorem dX10_row_52 : decode cX10_row 52 = .ok (.if_icmp .ge 22, 3) := by decide +kernel
theorem dX10_row_55 : decode cX10_row 55 = .ok (.aload_n 0, 1) := by decide +kernel
theorem dX10_row_56 : decode cX10_row 56 = .ok (.getfield 84, 3) := by decide +kernel
theorem dX10_row_59 : decode cX10_row 59 = .ok (.bipush 60, 2) := by decide +kernel
theorem dX10_row_61 : decode cX10_row 61 = .ok (.iload_n 1, 1) := by decide +kernel
theorem dX10_row_62 : decode cX10_row 62 = .ok (.imul, 1) := by decide +kernel
theorem dX10_row_63 : decode cX10_row 63 = .ok (.iload 4, 2) := by decide +kernel
theorem dX10_row_65 : decode cX10_row 65 = .ok (.iadd, 1) := by decide +kernel
theorem dX10_row_66 : decode cX10_row 66 = .ok (.lconst 0, 1) := by decide +kernel
theorem dX10_row_67 : decode cX10_row 67 = .ok (.lastore, 1) := by decide +kernel
theorem dX10_row_68 : decode cX10_row 68 = .ok (.iinc 4 1, 3) := by decide +kernel
theorem dX10_row_71 : decode cX10_row 71 = .ok (.goto (-23), 3) := by decide +kernel
theorem dX10_row_74 : decode cX10_row 74 = .ok (.iconst 1, 1) := by decide +kernel
theorem dX10_row_75 : decode cX10_row 75 = .ok (.ireturn, 1) := by decide +kernel
theorem dX10_isRow_0 : decode cX10_isRow 0 = .ok (.aload_n 0, 1) := by decide +kernel
theorem dX10_isRow_1 : decode cX10_isRow 1 = .ok (.getfield 78, 3) := by decide +kernel
theorem dX10_isRow_4 : decode cX10_isRow 4 = .ok (.iload_n 1, 1) := by decide +kernel
theorem dX10_isRow_5 : decode cX10_isRow 5 = .ok (.iaload, 1) := by decide +kernel
theorem dX10_isRow_6 : decode cX10_isRow 6 = .ok (.iconst 0, 1) := by decide +kernel
theorem dX10_isRow_7 : decode cX10_isRow 7 = .ok (.iconst 4, 1) := by decide +kernel
theorem dX10_isRow_8 : decode cX10_isRow 8 = .ok (.invokestatic 103, 3) := by decide +kernel
theorem dX10_isRow_11 : decode cX10_isRow 11 = .ok (.ireturn, 1) := by decide +kernel
theorem dX10_kept_0 : decode cX10_kept 0 = .ok (.iload_n 0, 1) := by decide +kernel
theorem dX10_kept_1 : decode cX10_kept 1 = .ok (.tableswitch 47 0 3 #[31, 36, 41, 45], 31) := by decide +kernel
theorem dX10_kept_32 : decode cX10_kept 32 = .ok (.lload_n 1, 1) := by decide +kernel
theorem dX10_kept_33 : decode cX10_kept 33 = .ok (.l2i, 1) := by decide +kernel
theorem dX10_kept_34 : decode cX10_kept 34 = .ok (.i2b, 1) := by decide +kernel
theorem dX10_kept_35 : decode cX10_kept 35 = .ok (.i2l, 1) := by decide +kernel
theorem dX10_kept_36 : decode cX10_kept 36 = .ok (.lreturn, 1) := by decide +kernel
theorem dX10_kept_37 : decode cX10_kept 37 = .ok (.lload_n 1, 1) := by decide +kernel
theorem dX10_kept_38 : decode cX10_kept 38 = .ok (.l2i, 1) := by decide +kernel
theorem dX10_kept_39 : decode cX10_kept 39 = .ok (.i2s, 1) := by decide +kernel
theorem dX10_kept_40 : decode cX10_kept 40 = .ok (.i2l, 1) := by decide +kernel
theorem dX10_kept_41 : decode cX10_kept 41 = .ok (.lreturn, 1) := by decide +kernel
theorem dX10_kept_42 : decode cX10_kept 42 = .ok (.lload_n 1, 1) := by decide +kernel
theorem dX10_kept_43 : decode cX10_kept 43 = .ok (.l2i, 1) := by decide +kernel
theorem dX10_kept_44 : decode cX10_kept 44 = .ok (.i2l, 1) := by decide +kernel
theorem dX10_kept_45 : decode cX10_kept 45 = .ok (.lreturn, 1) := by decide +kernel
theorem dX10_kept_46 : decode cX10_kept 46 = .ok (.lload_n 1, 1) := by decide +kernel
theorem dX10_kept_47 : decode cX10_kept 47 = .ok (.lreturn, 1) := by decide +kernel
theorem dX10_kept_48 : decode cX10_kept 48 = .ok (.lload_n 1, 1) := by decide +kernel
theorem dX10_kept_49 : decode cX10_kept 49 = .ok (.lconst 0, 1) := by decide +kernel
theorem dX10_kept_50 : decode cX10_kept 50 = .ok (.lcmp, 1) := by decide +kernel
theorem dX10_kept_51 : decode cX10_kept 51 = .ok (.ifCond .eq 7, 3) := by decide +kernel
theorem dX10_kept_54 : decode cX10_kept 54 = .ok (.lconst 1, 1) := by decide +kernel
theorem dX10_kept_55 : decode cX10_kept 55 = .ok (.goto 4, 3) := by decide +kernel
theorem dX10_kept_58 : decode cX10_kept 58 = .ok (.lconst 0, 1) := by decide +kernel
theorem dX10_kept_59 : decode cX10_kept 59 = .ok (.lreturn, 1) := by decide +kernel
theorem dX10_put_0 : decode cX10_put 0 = .ok (.iload_n 1, 1) := by decide +kernel
theorem dX10_put_1 : decode cX10_put 1 = .ok (.invokestatic 119, 3) := by decide +kernel
theorem dX10_put_4 : decode cX10_put 4 = .ok (.ifCond .ne 5, 3) := by decide +kernel
theorem dX10_put_7 : decode cX10_put 7 = .ok (.iconst (-1), 1) := by decide +kernel
theorem dX10_put_8 : decode cX10_put 8 = .ok (.ireturn, 1) := by decide +kernel
theorem dX10_put_9 : decode cX10_put 9 = .ok (.aload_n 0, 1) := by decide +kernel
theorem dX10_put_10 : decode cX10_put 10 = .ok (.getfield 78, 3) := by decide +kernel
theorem dX10_put_13 : decode cX10_put 13 = .ok (.iload_n 1, 1) := by decide +kernel
theorem dX10_put_14 : decode cX10_put 14 = .ok (.iaload, 1) := by decide +kernel
theorem dX10_put_15 : decode cX10_put 15 = .ok (.iconst (-1), 1) := by decide +kernel
theorem dX10_put_16 : decode cX10_put 16 = .ok (.if_icmp .ne 6, 3) := by decide +kernel
theorem dX10_put_19 : decode cX10_put 19 = .ok (.bipush (-11), 2) := by decide +kernel
theorem dX10_put_21 : decode cX10_put 21 = .ok (.ireturn, 1) := by decide +kernel
theorem dX10_put_22 : decode cX10_put 22 = .ok (.aload_n 0, 1) := by decide +kernel
theorem dX10_put_23 : decode cX10_put 23 = .ok (.iload_n 1, 1) := by decide +kernel
theorem dX10_put_24 : decode cX10_put 24 = .ok (.invokevirtual 340, 3) := by decide +kernel
theorem dX10_put_27 : decode cX10_put 27 = .ok (.ifCond .ne 6, 3) := by decide +kernel
theorem dX10_put_30 : decode cX10_put 30 = .ok (.bipush (-12), 2) := by decide +kernel
theorem dX10_put_32 : decode cX10_put 32 = .ok (.ireturn, 1) := by decide +kernel
theorem dX10_put_33 : decode cX10_put 33 = .ok (.iload_n 2, 1) := by decide +kernel
theorem dX10_put_34 : decode cX10_put 34 = .ok (.iconst 0, 1) := by decide +kernel
theorem dX10_put_35 : decode cX10_put 35 = .ok (.aload_n 0, 1) := by decide +kernel
theorem dX10_put_36 : decode cX10_put 36 = .ok (.getfield 81, 3) := by decide +kernel
theorem dX10_put_39 : decode cX10_put 39 = .ok (.iload_n 1, 1) := by decide +kernel
theorem dX10_put_40 : decode cX10_put 40 = .ok (.iaload, 1) := by decide +kernel
theorem dX10_put_41 : decode cX10_put 41 = .ok (.iconst 1, 1) := by decide +kernel
theorem dX10_put_42 : decode cX10_put 42 = .ok (.isub, 1) := by decide +kernel
theorem dX10_put_43 : decode cX10_put 43 = .ok (.invokestatic 103, 3) := by decide +kernel
theorem dX10_put_46 : decode cX10_put 46 = .ok (.ifCond .ne 6, 3) := by decide +kernel
theorem dX10_put_49 : decode cX10_put 49 = .ok (.bipush (-13), 2) := by decide +kernel
theorem dX10_put_51 : decode cX10_put 51 = .ok (.ireturn, 1) := by decide +kernel
theorem dX10_put_52 : decode cX10_put 52 = .ok (.aload_n 0, 1) := by decide +kernel
theorem dX10_put_53 : decode cX10_put 53 = .ok (.getfield 84, 3) := by decide +kernel
theorem dX10_put_56 : decode cX10_put 56 = .ok (.bipush 60, 2) := by decide +kernel
theorem dX10_put_58 : decode cX10_put 58 = .ok (.iload_n 1, 1) := by decide +kernel
theorem dX10_put_59 : decode cX10_put 59 = .ok (.imul, 1) := by decide +kernel
theorem dX10_put_60 : decode cX10_put 60 = .ok (.iload_n 2, 1) := by decide +kernel
theorem dX10_put_61 : decode cX10_put 61 = .ok (.iadd, 1) := by decide +kernel
theorem dX10_put_62 : decode cX10_put 62 = .ok (.aload_n 0, 1) := by decide +kernel
theorem dX10_put_63 : decode cX10_put 63 = .ok (.getfield 78, 3) := by decide +kernel
theorem dX10_put_66 : decode cX10_put 66 = .ok (.iload_n 1, 1) := by decide +kernel
theorem dX10_put_67 : decode cX10_put 67 = .ok (.iaload, 1) := by decide +kernel
theorem dX10_put_68 : decode cX10_put 68 = .ok (.lload_n 3, 1) := by decide +kernel
theorem dX10_put_69 : decode cX10_put 69 = .ok (.invokestatic 343, 3) := by decide +kernel
theorem dX10_put_72 : decode cX10_put 72 = .ok (.lastore, 1) := by decide +kernel
theorem dX10_put_73 : decode cX10_put 73 = .ok (.iconst 1, 1) := by decide +kernel
theorem dX10_put_74 : decode cX10_put 74 = .ok (.ireturn, 1) := by decide +kernel
theorem dX10_element_0 : decode cX10_element 0 = .ok (.iload_n 1, 1) := by decide +kernel
theorem dX10_element_1 : decode cX10_element 1 = .ok (.invokestatic 119, 3) := by decide +kernel
theorem dX10_element_4 : decode cX10_element 4 = .ok (.ifCond .eq 41, 3) := by decide +kernel
theorem dX10_element_7 : decode cX10_element 7 = .ok (.aload_n 0, 1) := by decide +kernel
theorem dX10_element_8 : decode cX10_element 8 = .ok (.iload_n 1, 1) := by decide +kernel
theorem dX10_element_9 : decode cX10_element 9 = .ok (.invokevirtual 340, 3) := by decide +kernel
theorem dX10_element_12 : decode cX10_element 12 = .ok (.ifCond .eq 33, 3) := by decide +kernel
theorem dX10_element_15 : decode cX10_element 15 = .ok (.iload_n 2, 1) := by decide +kernel
theorem dX10_element_16 : decode cX10_element 16 = .ok (.iconst 0, 1) := by decide +kernel
theorem dX10_element_17 : decode cX10_element 17 = .ok (.aload_n 0, 1) := by decide +kernel
theorem dX10_element_18 : decode cX10_element 18 = .ok (.getfield 81, 3) := by decide +kernel
theorem dX10_element_21 : decode cX10_element 21 = .ok (.iload_n 1, 1) := by decide +kernel
theorem dX10_element_22 : decode cX10_element 22 = .ok (.iaload, 1) := by decide +kernel
theorem dX10_element_23 : decode cX10_element 23 = .ok (.iconst 1, 1) := by decide +kernel
theorem dX10_element_24 : decode cX10_element 24 = .ok (.isub, 1) := by decide +kernel
theorem dX10_element_25 : decode cX10_element 25 = .ok (.invokestatic 103, 3) := by decide +kernel
theorem dX10_element_28 : decode cX10_element 28 = .ok (.ifCond .eq 17, 3) := by decide +kernel
theorem dX10_element_31 : decode cX10_element 31 = .ok (.aload_n 0, 1) := by decide +kernel
theorem dX10_element_32 : decode cX10_element 32 = .ok (.getfield 84, 3) := by decide +kernel
theorem dX10_element_35 : decode cX10_element 35 = .ok (.bipush 60, 2) := by decide +kernel
theorem dX10_element_37 : decode cX10_element 37 = .ok (.iload_n 1, 1) := by decide +kernel
theorem dX10_element_38 : decode cX10_element 38 = .ok (.imul, 1) := by decide +kernel
theorem dX10_element_39 : decode cX10_element 39 = .ok (.iload_n 2, 1) := by decide +kernel
theorem dX10_element_40 : decode cX10_element 40 = .ok (.iadd, 1) := by decide +kernel
theorem dX10_element_41 : decode cX10_element 41 = .ok (.laload, 1) := by decide +kernel
theorem dX10_element_42 : decode cX10_element 42 = .ok (.goto 6, 3) := by decide +kernel
theorem dX10_element_45 : decode cX10_element 45 = .ok (.ldc2_w 347, 3) := by decide +kernel
theorem dX10_element_48 : decode cX10_element 48 = .ok (.lreturn, 1) := by decide +kernel
theorem dX10_shift_0 : decode cX10_shift 0 = .ok (.iload_n 1, 1) := by decide +kernel
theorem dX10_shift_1 : decode cX10_shift 1 = .ok (.invokestatic 119, 3) := by decide +kernel
theorem dX10_shift_4 : decode cX10_shift 4 = .ok (.ifCond .eq 10, 3) := by decide +kernel
theorem dX10_shift_7 : decode cX10_shift 7 = .ok (.iload_n 3, 1) := by decide +kernel
theorem dX10_shift_8 : decode cX10_shift 8 = .ok (.invokestatic 119, 3) := by decide +kernel
theorem dX10_shift_11 : decode cX10_shift 11 = .ok (.ifCond .ne 5, 3) := by decide +kernel
theorem dX10_shift_14 : decode cX10_shift 14 = .ok (.iconst (-1), 1) := by decide +kernel
theorem dX10_shift_15 : decode cX10_shift 15 = .ok (.ireturn, 1) := by decide +kernel
theorem dX10_shift_16 : decode cX10_shift 16 = .ok (.aload_n 0, 1) := by decide +kernel
theorem dX10_shift_17 : decode cX10_shift 17 = .ok (.getfield 78, 3) := by decide +kernel
theorem dX10_shift_20 : decode cX10_shift 20 = .ok (.iload_n 1, 1) := by decide +kernel
theorem dX10_shift_21 : decode cX10_shift 21 = .ok (.iaload, 1) := by decide +kernel
theorem dX10_shift_22 : decode cX10_shift 22 = .ok (.iconst (-1), 1) := by decide +kernel
theorem dX10_shift_23 : decode cX10_shift 23 = .ok (.if_icmp .eq 13, 3) := by decide +kernel
theorem dX10_shift_26 : decode cX10_shift 26 = .ok (.aload_n 0, 1) := by decide +kernel
theorem dX10_shift_27 : decode cX10_shift 27 = .ok (.getfield 78, 3) := by decide +kernel
theorem dX10_shift_30 : decode cX10_shift 30 = .ok (.iload_n 3, 1) := by decide +kernel
theorem dX10_shift_31 : decode cX10_shift 31 = .ok (.iaload, 1) := by decide +kernel
theorem dX10_shift_32 : decode cX10_shift 32 = .ok (.iconst (-1), 1) := by decide +kernel
theorem dX10_shift_33 : decode cX10_shift 33 = .ok (.if_icmp .ne 6, 3) := by decide +kernel
theorem dX10_shift_36 : decode cX10_shift 36 = .ok (.bipush (-11), 2) := by decide +kernel
theorem dX10_shift_38 : decode cX10_shift 38 = .ok (.ireturn, 1) := by decide +kernel
theorem dX10_shift_39 : decode cX10_shift 39 = .ok (.aload_n 0, 1) := by decide +kernel
theorem dX10_shift_40 : decode cX10_shift 40 = .ok (.iload_n 1, 1) := by decide +kernel
theorem dX10_shift_41 : decode cX10_shift 41 = .ok (.invokevirtual 340, 3) := by decide +kernel
theorem dX10_shift_44 : decode cX10_shift 44 = .ok (.ifCond .eq 26, 3) := by decide +kernel
theorem dX10_shift_47 : decode cX10_shift 47 = .ok (.aload_n 0, 1) := by decide +kernel
theorem dX10_shift_48 : decode cX10_shift 48 = .ok (.iload_n 3, 1) := by decide +kernel
theorem dX10_shift_49 : decode cX10_shift 49 = .ok (.invokevirtual 340, 3) := by decide +kernel
theorem dX10_shift_52 : decode cX10_shift 52 = .ok (.ifCond .eq 18, 3) := by decide +kernel
theorem dX10_shift_55 : decode cX10_shift 55 = .ok (.aload_n 0, 1) := by decide +kernel
theorem dX10_shift_56 : decode cX10_shift 56 = .ok (.getfield 78, 3) := by decide +kernel
theorem dX10_shift_59 : decode cX10_shift 59 = .ok (.iload_n 1, 1) := by decide +kernel
theorem dX10_shift_60 : decode cX10_shift 60 = .ok (.iaload, 1) := by decide +kernel
theorem dX10_shift_61 : decode cX10_shift 61 = .ok (.aload_n 0, 1) := by decide +kernel
theorem dX10_shift_62 : decode cX10_shift 62 = .ok (.getfield 78, 3) := by decide +kernel
theorem dX10_shift_65 : decode cX10_shift 65 = .ok (.iload_n 3, 1) := by decide +kernel
theorem dX10_shift_66 : decode cX10_shift 66 = .ok (.iaload, 1) := by decide +kernel
theorem dX10_shift_67 : decode cX10_shift 67 = .ok (.if_icmp .eq 6, 3) := by decide +kernel
theorem dX10_shift_70 : decode cX10_shift 70 = .ok (.bipush (-12), 2) := by decide +kernel
theorem dX10_shift_72 : decode cX10_shift 72 = .ok (.ireturn, 1) := by decide +kernel
theorem dX10_shift_73 : decode cX10_shift 73 = .ok (.iload 5, 2) := by decide +kernel
theorem dX10_shift_75 : decode cX10_shift 75 = .ok (.ifCond .lt 47, 3) := by decide +kernel
theorem dX10_shift_78 : decode cX10_shift 78 = .ok (.iload_n 2, 1) := by decide +kernel
theorem dX10_shift_79 : decode cX10_shift 79 = .ok (.ifCond .lt 43, 3) := by decide +kernel
theorem dX10_shift_82 : decode cX10_shift 82 = .ok (.iload 4, 2) := by decide +kernel
theorem dX10_shift_84 : decode cX10_shift 84 = .ok (.ifCond .lt 38, 3) := by decide +kernel
theorem dX10_shift_87 : decode cX10_shift 87 = .ok (.iload_n 2, 1) := by decide +kernel
theorem dX10_shift_88 : decode cX10_shift 88 = .ok (.i2l, 1) := by decide +kernel
theorem dX10_shift_89 : decode cX10_shift 89 = .ok (.iload 5, 2) := by decide +kernel
theorem dX10_shift_91 : decode cX10_shift 91 = .ok (.i2l, 1) := by decide +kernel
theorem dX10_shift_92 : decode cX10_shift 92 = .ok (.ladd, 1) := by decide +kernel
theorem dX10_shift_93 : decode cX10_shift 93 = .ok (.aload_n 0, 1) := by decide +kernel
theorem dX10_shift_94 : decode cX10_shift 94 = .ok (.getfield 81, 3) := by decide +kernel
theorem dX10_shift_97 : decode cX10_shift 97 = .ok (.iload_n 1, 1) := by decide +kernel
theorem dX10_shift_98 : decode cX10_shift 98 = .ok (.iaload, 1) := by decide +kernel
theorem dX10_shift_99 : decode cX10_shift 99 = .ok (.i2l, 1) := by decide +kernel
theorem dX10_shift_100 : decode cX10_shift 100 = .ok (.lcmp, 1) := by decide +kernel
theorem dX10_shift_101 : decode cX10_shift 101 = .ok (.ifCond .gt 21, 3) := by decide +kernel
theorem dX10_shift_104 : decode cX10_shift 104 = .ok (.iload 4, 2) := by decide +kernel
theorem dX10_shift_106 : decode cX10_shift 106 = .ok (.i2l, 1) := by decide +kernel
theorem dX10_shift_107 : decode cX10_shift 107 = .ok (.iload 5, 2) := by decide +kernel
theorem dX10_shift_109 : decode cX10_shift 109 = .ok (.i2l, 1) := by decide +kernel
theorem dX10_shift_110 : decode cX10_shift 110 = .ok (.ladd, 1) := by decide +kernel
theorem dX10_shift_111 : decode cX10_shift 111 = .ok (.aload_n 0, 1) := by decide +kernel
theorem dX10_shift_112 : decode cX10_shift 112 = .ok (.getfield 81, 3) := by decide +kernel
theorem dX10_shift_115 : decode cX10_shift 115 = .ok (.iload_n 3, 1) := by decide +kernel
theorem dX10_shift_116 : decode cX10_shift 116 = .ok (.iaload, 1) := by decide +kernel
theorem dX10_shift_117 : decode cX10_shift 117 = .ok (.i2l, 1) := by decide +kernel
theorem dX10_shift_118 : decode cX10_shift 118 = .ok (.lcmp, 1) := by decide +kernel
theorem dX10_shift_119 : decode cX10_shift 119 = .ok (.ifCond .le 6, 3) := by decide +kernel
theorem dX10_shift_122 : decode cX10_shift 122 = .ok (.bipush (-13), 2) := by decide +kernel
theorem dX10_shift_124 : decode cX10_shift 124 = .ok (.ireturn, 1) := by decide +kernel
theorem dX10_shift_125 : decode cX10_shift 125 = .ok (.iload_n 1, 1) := by decide +kernel
theorem dX10_shift_126 : decode cX10_shift 126 = .ok (.iload_n 3, 1) := by decide +kernel
theorem dX10_shift_127 : decode cX10_shift 127 = .ok (.if_icmp .ne 58, 3) := by decide +kernel
theorem dX10_shift_130 : decode cX10_shift 130 = .ok (.iload_n 2, 1) := by decide +kernel
theorem dX10_shift_131 : decode cX10_shift 131 = .ok (.iload 4, 2) := by decide +kernel
theorem dX10_shift_133 : decode cX10_shift 133 = .ok (.if_icmp .ge 52, 3) := by decide +kernel
theorem dX10_shift_136 : decode cX10_shift 136 = .ok (.iload 5, 2) := by decide +kernel
theorem dX10_shift_138 : decode cX10_shift 138 = .ok (.iconst 1, 1) := by decide +kernel
theorem dX10_shift_139 : decode cX10_shift 139 = .ok (.isub, 1) := by decide +kernel
theorem dX10_shift_140 : decode cX10_shift 140 = .ok (.istore 6, 2) := by decide +kernel
theorem dX10_shift_142 : decode cX10_shift 142 = .ok (.iload 6, 2) := by decide +kernel
theorem dX10_shift_144 : decode cX10_shift 144 = .ok (.ifCond .lt 38, 3) := by decide +kernel
theorem dX10_shift_147 : decode cX10_shift 147 = .ok (.aload_n 0, 1) := by decide +kernel
theorem dX10_shift_148 : decode cX10_shift 148 = .ok (.getfield 84, 3) := by decide +kernel
theorem dX10_shift_151 : decode cX10_shift 151 = .ok (.bipush 60, 2) := by decide +kernel
theorem dX10_shift_153 : decode cX10_shift 153 = .ok (.iload_n 3, 1) := by decide +kernel
theorem dX10_shift_154 : decode cX10_shift 154 = .ok (.imul, 1) := by decide +kernel
theorem dX10_shift_155 : decode cX10_shift 155 = .ok (.iload 4, 2) := by decide +kernel
theorem dX10_shift_157 : decode cX10_shift 157 = .ok (.iadd, 1) := by decide +kernel
theorem dX10_shift_158 : decode cX10_shift 158 = .ok (.iload 6, 2) := by decide +kernel
theorem dX10_shift_160 : decode cX10_shift 160 = .ok (.iadd, 1) := by decide +kernel
theorem dX10_shift_161 : decode cX10_shift 161 = .ok (.aload_n 0, 1) := by decide +kernel
theorem dX10_shift_162 : decode cX10_shift 162 = .ok (.getfield 84, 3) := by decide +kernel
theorem dX10_shift_165 : decode cX10_shift 165 = .ok (.bipush 60, 2) := by decide +kernel
theorem dX10_shift_167 : decode cX10_shift 167 = .ok (.iload_n 1, 1) := by decide +kernel
theorem dX10_shift_168 : decode cX10_shift 168 = .ok (.imul, 1) := by decide +kernel
theorem dX10_shift_169 : decode cX10_shift 169 = .ok (.iload_n 2, 1) := by decide +kernel
theorem dX10_shift_170 : decode cX10_shift 170 = .ok (.iadd, 1) := by decide +kernel
theorem dX10_shift_171 : decode cX10_shift 171 = .ok (.iload 6, 2) := by decide +kernel
theorem dX10_shift_173 : decode cX10_shift 173 = .ok (.iadd, 1) := by decide +kernel
theorem dX10_shift_174 : decode cX10_shift 174 = .ok (.laload, 1) := by decide +kernel
theorem dX10_shift_175 : decode cX10_shift 175 = .ok (.lastore, 1) := by decide +kernel
theorem dX10_shift_176 : decode cX10_shift 176 = .ok (.iinc 6 (-1), 3) := by decide +kernel
theorem dX10_shift_179 : decode cX10_shift 179 = .ok (.goto (-37), 3) := by decide +kernel
theorem dX10_shift_182 : decode cX10_shift 182 = .ok (.goto 48, 3) := by decide +kernel
theorem dX10_shift_185 : decode cX10_shift 185 = .ok (.iconst 0, 1) := by decide +kernel
theorem dX10_shift_186 : decode cX10_shift 186 = .ok (.istore 6, 2) := by decide +kernel
theorem dX10_shift_188 : decode cX10_shift 188 = .ok (.iload 6, 2) := by decide +kernel
theorem dX10_shift_190 : decode cX10_shift 190 = .ok (.iload 5, 2) := by decide +kernel
theorem dX10_shift_192 : decode cX10_shift 192 = .ok (.if_icmp .ge 38, 3) := by decide +kernel
theorem dX10_shift_195 : decode cX10_shift 195 = .ok (.aload_n 0, 1) := by decide +kernel
theorem dX10_shift_196 : decode cX10_shift 196 = .ok (.getfield 84, 3) := by decide +kernel
theorem dX10_shift_199 : decode cX10_shift 199 = .ok (.bipush 60, 2) := by decide +kernel
theorem dX10_shift_201 : decode cX10_shift 201 = .ok (.iload_n 3, 1) := by decide +kernel
theorem dX10_shift_202 : decode cX10_shift 202 = .ok (.imul, 1) := by decide +kernel
theorem dX10_shift_203 : decode cX10_shift 203 = .ok (.iload 4, 2) := by decide +kernel
theorem dX10_shift_205 : decode cX10_shift 205 = .ok (.iadd, 1) := by decide +kernel
theorem dX10_shift_206 : decode cX10_shift 206 = .ok (.iload 6, 2) := by decide +kernel
theorem dX10_shift_208 : decode cX10_shift 208 = .ok (.iadd, 1) := by decide +kernel
theorem dX10_shift_209 : decode cX10_shift 209 = .ok (.aload_n 0, 1) := by decide +kernel
theorem dX10_shift_210 : decode cX10_shift 210 = .ok (.getfield 84, 3) := by decide +kernel
theorem dX10_shift_213 : decode cX10_shift 213 = .ok (.bipush 60, 2) := by decide +kernel
theorem dX10_shift_215 : decode cX10_shift 215 = .ok (.iload_n 1, 1) := by decide +kernel
theorem dX10_shift_216 : decode cX10_shift 216 = .ok (.imul, 1) := by decide +kernel
theorem dX10_shift_217 : decode cX10_shift 217 = .ok (.iload_n 2, 1) := by decide +kernel
theorem dX10_shift_218 : decode cX10_shift 218 = .ok (.iadd, 1) := by decide +kernel
theorem dX10_shift_219 : decode cX10_shift 219 = .ok (.iload 6, 2) := by decide +kernel
theorem dX10_shift_221 : decode cX10_shift 221 = .ok (.iadd, 1) := by decide +kernel
theorem dX10_shift_222 : decode cX10_shift 222 = .ok (.laload, 1) := by decide +kernel
theorem dX10_shift_223 : decode cX10_shift 223 = .ok (.lastore, 1) := by decide +kernel
theorem dX10_shift_224 : decode cX10_shift 224 = .ok (.iinc 6 1, 3) := by decide +kernel
theorem dX10_shift_227 : decode cX10_shift 227 = .ok (.goto (-39), 3) := by decide +kernel
theorem dX10_shift_230 : decode cX10_shift 230 = .ok (.iload 5, 2) := by decide +kernel
theorem dX10_shift_232 : decode cX10_shift 232 = .ok (.ireturn, 1) := by decide +kernel
theorem dX10_taken_0 : decode cX10_taken 0 = .ok (.iload_n 1, 1) := by decide +kernel
theorem dX10_taken_1 : decode cX10_taken 1 = .ok (.invokestatic 119, 3) := by decide +kernel
theorem dX10_taken_4 : decode cX10_taken 4 = .ok (.ifCond .eq 13, 3) := by decide +kernel
theorem dX10_taken_7 : decode cX10_taken 7 = .ok (.iload_n 2, 1) := by decide +kernel
theorem dX10_taken_8 : decode cX10_taken 8 = .ok (.iconst 0, 1) := by decide +kernel
theorem dX10_taken_9 : decode cX10_taken 9 = .ok (.bipush 7, 2) := by decide +kernel
theorem dX10_taken_11 : decode cX10_taken 11 = .ok (.invokestatic 103, 3) := by decide +kernel
theorem dX10_taken_14 : decode cX10_taken 14 = .ok (.ifCond .ne 5, 3) := by decide +kernel
theorem dX10_taken_17 : decode cX10_taken 17 = .ok (.iconst (-1), 1) := by decide +kernel
theorem dX10_taken_18 : decode cX10_taken 18 = .ok (.ireturn, 1) := by decide +kernel
theorem dX10_taken_19 : decode cX10_taken 19 = .ok (.aload_n 0, 1) := by decide +kernel
theorem dX10_taken_20 : decode cX10_taken 20 = .ok (.getfield 78, 3) := by decide +kernel
theorem dX10_taken_23 : decode cX10_taken 23 = .ok (.iload_n 1, 1) := by decide +kernel
theorem dX10_taken_24 : decode cX10_taken 24 = .ok (.iaload, 1) := by decide +kernel
theorem dX10_taken_25 : decode cX10_taken 25 = .ok (.iconst (-1), 1) := by decide +kernel
theorem dX10_taken_26 : decode cX10_taken 26 = .ok (.if_icmp .ne 6, 3) := by decide +kernel
theorem dX10_taken_29 : decode cX10_taken 29 = .ok (.bipush (-11), 2) := by decide +kernel
theorem dX10_taken_31 : decode cX10_taken 31 = .ok (.ireturn, 1) := by decide +kernel
theorem dX10_taken_32 : decode cX10_taken 32 = .ok (.aload_n 0, 1) := by decide +kernel
theorem dX10_taken_33 : decode cX10_taken 33 = .ok (.iload_n 1, 1) := by decide +kernel
theorem dX10_taken_34 : decode cX10_taken 34 = .ok (.invokevirtual 340, 3) := by decide +kernel
theorem dX10_taken_37 : decode cX10_taken 37 = .ok (.ifCond .eq 6, 3) := by decide +kernel
theorem dX10_taken_40 : decode cX10_taken 40 = .ok (.bipush (-12), 2) := by decide +kernel
theorem dX10_taken_42 : decode cX10_taken 42 = .ok (.ireturn, 1) := by decide +kernel
theorem dX10_taken_43 : decode cX10_taken 43 = .ok (.aload_n 0, 1) := by decide +kernel
theorem dX10_taken_44 : decode cX10_taken 44 = .ok (.getfield 72, 3) := by decide +kernel
theorem dX10_taken_47 : decode cX10_taken 47 = .ok (.aload_n 0, 1) := by decide +kernel
theorem dX10_taken_48 : decode cX10_taken 48 = .ok (.getfield 78, 3) := by decide +kernel
theorem dX10_taken_51 : decode cX10_taken 51 = .ok (.iload_n 1, 1) := by decide +kernel
theorem dX10_taken_52 : decode cX10_taken 52 = .ok (.iaload, 1) := by decide +kernel
theorem dX10_taken_53 : decode cX10_taken 53 = .ok (.bipush 10, 2) := by decide +kernel
theorem dX10_taken_55 : decode cX10_taken 55 = .ok (.isub, 1) := by decide +kernel
theorem dX10_taken_56 : decode cX10_taken 56 = .ok (.iaload, 1) := by decide +kernel
theorem dX10_taken_57 : decode cX10_taken 57 = .ok (.istore_n 3, 1) := by decide +kernel
theorem dX10_taken_58 : decode cX10_taken 58 = .ok (.iload_n 3, 1) := by decide +kernel
theorem dX10_taken_59 : decode cX10_taken 59 = .ok (.istore 4, 2) := by decide +kernel
theorem dX10_taken_61 : decode cX10_taken 61 = .ok (.iload 4, 2) := by decide +kernel
theorem dX10_taken_63 : decode cX10_taken 63 = .ok (.iload_n 2, 1) := by decide +kernel
theorem dX10_taken_64 : decode cX10_taken 64 = .ok (.if_icmp .eq 18, 3) := by decide +kernel
theorem dX10_taken_67 : decode cX10_taken 67 = .ok (.iload 4, 2) := by decide +kernel
theorem dX10_taken_69 : decode cX10_taken 69 = .ok (.ifCond .le 13, 3) := by decide +kernel
theorem dX10_taken_72 : decode cX10_taken 72 = .ok (.iload 4, 2) := by decide +kernel
theorem dX10_taken_74 : decode cX10_taken 74 = .ok (.invokestatic 325, 3) := by decide +kernel
theorem dX10_taken_77 : decode cX10_taken 77 = .ok (.istore 4, 2) := by decide +kernel
theorem dX10_taken_79 : decode cX10_taken 79 = .ok (.goto (-18), 3) := by decide +kernel
theorem dX10_taken_82 : decode cX10_taken 82 = .ok (.iload 4, 2) := by decide +kernel
theorem dX10_taken_84 : decode cX10_taken 84 = .ok (.iload_n 2, 1) := by decide +kernel
theorem dX10_taken_85 : decode cX10_taken 85 = .ok (.if_icmp .ne 7, 3) := by decide +kernel
theorem dX10_taken_88 : decode cX10_taken 88 = .ok (.iload_n 3, 1) := by decide +kernel
theorem dX10_taken_89 : decode cX10_taken 89 = .ok (.goto 5, 3) := by decide +kernel
theorem dX10_taken_92 : decode cX10_taken 92 = .ok (.bipush (-12), 2) := by decide +kernel
theorem dX10_taken_94 : decode cX10_taken 94 = .ok (.ireturn, 1) := by decide +kernel
theorem dX10_count_0 : decode cX10_count 0 = .ok (.iconst 0, 1) := by decide +kernel
theorem dX10_count_1 : decode cX10_count 1 = .ok (.istore_n 2, 1) := by decide +kernel
theorem dX10_count_2 : decode cX10_count 2 = .ok (.iload_n 1, 1) := by decide +kernel
theorem dX10_count_3 : decode cX10_count 3 = .ok (.tableswitch 90 0 5 #[37, 42, 70, 75, 80, 85], 37) := by decide +kernel
theorem dX10_count_40 : decode cX10_count 40 = .ok (.aload_n 0, 1) := by decide +kernel
theorem dX10_count_41 : decode cX10_count 41 = .ok (.getfield 107, 3) := by decide +kernel
theorem dX10_count_44 : decode cX10_count 44 = .ok (.ireturn, 1) := by decide +kernel
theorem dX10_count_45 : decode cX10_count 45 = .ok (.iconst 0, 1) := by decide +kernel
theorem dX10_count_46 : decode cX10_count 46 = .ok (.istore_n 3, 1) := by decide +kernel
theorem dX10_count_47 : decode cX10_count 47 = .ok (.iload_n 3, 1) := by decide +kernel
theorem dX10_count_48 : decode cX10_count 48 = .ok (.bipush 30, 2) := by decide +kernel
theorem dX10_count_50 : decode cX10_count 50 = .ok (.if_icmp .ge 21, 3) := by decide +kernel
theorem dX10_count_53 : decode cX10_count 53 = .ok (.aload_n 0, 1) := by decide +kernel
theorem dX10_count_54 : decode cX10_count 54 = .ok (.getfield 15, 3) := by decide +kernel
theorem dX10_count_57 : decode cX10_count 57 = .ok (.iload_n 3, 1) := by decide +kernel
theorem dX10_count_58 : decode cX10_count 58 = .ok (.iaload, 1) := by decide +kernel
theorem dX10_count_59 : decode cX10_count 59 = .ok (.ifCond .le 6, 3) := by decide +kernel
theorem dX10_count_62 : decode cX10_count 62 = .ok (.iinc 2 1, 3) := by decide +kernel
theorem dX10_count_65 : decode cX10_count 65 = .ok (.iinc 3 1, 3) := by decide +kernel
theorem dX10_count_68 : decode cX10_count 68 = .ok (.goto (-21), 3) := by decide +kernel
theorem dX10_count_71 : decode cX10_count 71 = .ok (.iload_n 2, 1) := by decide +kernel
theorem dX10_count_72 : decode cX10_count 72 = .ok (.ireturn, 1) := by decide +kernel
theorem dX10_count_73 : decode cX10_count 73 = .ok (.aload_n 0, 1) := by decide +kernel
theorem dX10_count_74 : decode cX10_count 74 = .ok (.getfield 151, 3) := by decide +kernel
theorem dX10_count_77 : decode cX10_count 77 = .ok (.ireturn, 1) := by decide +kernel
theorem dX10_count_78 : decode cX10_count 78 = .ok (.aload_n 0, 1) := by decide +kernel
theorem dX10_count_79 : decode cX10_count 79 = .ok (.getfield 145, 3) := by decide +kernel
theorem dX10_count_82 : decode cX10_count 82 = .ok (.ireturn, 1) := by decide +kernel
theorem dX10_count_83 : decode cX10_count 83 = .ok (.aload_n 0, 1) := by decide +kernel
theorem dX10_count_84 : decode cX10_count 84 = .ok (.getfield 337, 3) := by decide +kernel
theorem dX10_count_87 : decode cX10_count 87 = .ok (.ireturn, 1) := by decide +kernel
theorem dX10_count_88 : decode cX10_count 88 = .ok (.aload_n 0, 1) := by decide +kernel
theorem dX10_count_89 : decode cX10_count 89 = .ok (.getfield 316, 3) := by decide +kernel
theorem dX10_count_92 : decode cX10_count 92 = .ok (.ireturn, 1) := by decide +kernel
theorem dX10_count_93 : decode cX10_count 93 = .ok (.iconst (-1), 1) := by decide +kernel
theorem dX10_count_94 : decode cX10_count 94 = .ok (.ireturn, 1) := by decide +kernel
