theorem mck_229 : mChk 229 = true := by
  show (mcl_0 ++ (mcl_1 ++ (mcl_2 ++ (mcl_3 ++ (mcl_4 ++ (mcl_5 ++ (mcl_6 ++ (mcl_7 ++ (mcl_8 ++ (mcl_9 ++ (mcl_10 ++ (mcl_11 ++ (mcl_12 ++ (mcl_13 ++ (mcl_14 ++ (mcl_15 ++ (mcl_16 ++ (mcl_17 ++ (mcl_18 ++ (mcl_19 ++ (mcl_20))))))))))))))))))))).all (mChk1 229) = true
  rw [List.all_append, List.all_append, List.all_append, List.all_append, List.all_append, List.all_append, List.all_append, List.all_append, List.all_append, List.all_append, List.all_append, List.all_append, List.all_append, List.all_append, List.all_append, List.all_append, List.all_append, List.all_append, List.all_append, List.all_append, mckl_0, mckl_1, mckl_2, mckl_3, mckl_4, mckl_5, mckl_6, mckl_7, mckl_8, mckl_9, mckl_10, mckl_11, mckl_12, mckl_13, mckl_14, mckl_15, mckl_16, mckl_17, mckl_18, mckl_19, mckl_20]
  rfl
theorem mck_c0 {m : Nat} (h1 : 0 ≤ m) (h2 : m < 16) : mChk m = true := by
  rcases (by omega : m = 0 ∨ m = 1 ∨ m = 2 ∨ m = 3 ∨ m = 4 ∨ m = 5 ∨ m = 6 ∨ m = 7 ∨ m = 8 ∨ m = 9 ∨ m = 10 ∨ m = 11 ∨ m = 12 ∨ m = 13 ∨ m = 14 ∨ m = 15) with rfl | rfl | rfl | rfl | rfl | rfl | rfl | rfl | rfl | rfl | rfl | rfl | rfl | rfl | rfl | rfl
  · exact mck_0
  · exact mck_1
  · exact mck_2
  · exact mck_3
  · exact mck_4
  · exact mck_5
  · exact mck_6
  · exact mck_7
  · exact mck_8
  · exact mck_9
  · exact mck_10
  · exact mck_11
  · exact mck_12
  · exact mck_13
  · exact mck_14
  · exact mck_15
theorem mck_c16 {m : Nat} (h1 : 16 ≤ m) (h2 : m < 32) : mChk m = true := by
  rcases (by omega : m = 16 ∨ m = 17 ∨ m = 18 ∨ m = 19 ∨ m = 20 ∨ m = 21 ∨ m = 22 ∨ m = 23 ∨ m = 24 ∨ m = 25 ∨ m = 26 ∨ m = 27 ∨ m = 28 ∨ m = 29 ∨ m = 30 ∨ m = 31) with rfl | rfl | rfl | rfl | rfl | rfl | rfl | rfl | rfl | rfl | rfl | rfl | rfl | rfl | rfl | rfl
  · exact mck_16
  · exact mck_17
  · exact mck_18
  · exact mck_19
  · exact mck_20
  · exact mck_21
  · exact mck_22
  · exact mck_23
  · exact mck_24
  · exact mck_25
  · exact mck_26
  · exact mck_27
  · exact mck_28
  · exact mck_29
  · exact mck_30
  · exact mck_31
theorem mck_c32 {m : Nat} (h1 : 32 ≤ m) (h2 : m < 48) : mChk m = true := by
  rcases (by omega : m = 32 ∨ m = 33 ∨ m = 34 ∨ m = 35 ∨ m = 36 ∨ m = 37 ∨ m = 38 ∨ m = 39 ∨ m = 40 ∨ m = 41 ∨ m = 42 ∨ m = 43 ∨ m = 44 ∨ m = 45 ∨ m = 46 ∨ m = 47) with rfl | rfl | rfl | rfl | rfl | rfl | rfl | rfl | rfl | rfl | rfl | rfl | rfl | rfl | rfl | rfl
  · exact mck_32
  · exact mck_33
  · exact mck_34
  · exact mck_35
  · exact mck_36
  · exact mck_37
  · exact mck_38
  · exact mck_39
  · exact mck_40
  · exact mck_41
  · exact mck_42
  · exact mck_43
  · exact mck_44
  · exact mck_45
  · exact mck_46
  · exact mck_47
theorem mck_c48 {m : Nat} (h1 : 48 ≤ m) (h2 : m < 64) : mChk m = true := by
  rcases (by omega : m = 48 ∨ m = 49 ∨ m = 50 ∨ m = 51 ∨ m = 52 ∨ m = 53 ∨ m = 54 ∨ m = 55 ∨ m = 56 ∨ m = 57 ∨ m = 58 ∨ m = 59 ∨ m = 60 ∨ m = 61 ∨ m = 62 ∨ m = 63) with rfl | rfl | rfl | rfl | rfl | rfl | rfl | rfl | rfl | rfl | rfl | rfl | rfl | rfl | rfl | rfl
  · exact mck_48
  · exact mck_49
  · exact mck_50
  · exact mck_51
  · exact mck_52
  · exact mck_53
  · exact mck_54
  · exact mck_55
  · exact mck_56
  · exact mck_57
  · exact mck_58
  · exact mck_59
  · exact mck_60
  · exact mck_61
  · exact mck_62
  · exact mck_63
theorem mck_c64 {m : Nat} (h1 : 64 ≤ m) (h2 : m < 80) : mChk m = true := by
  rcases (by omega : m = 64 ∨ m = 65 ∨ m = 66 ∨ m = 67 ∨ m = 68 ∨ m = 69 ∨ m = 70 ∨ m = 71 ∨ m = 72 ∨ m = 73 ∨ m = 74 ∨ m = 75 ∨ m = 76 ∨ m = 77 ∨ m = 78 ∨ m = 79) with rfl | rfl | rfl | rfl | rfl | rfl | rfl | rfl | rfl | rfl | rfl | rfl | rfl | rfl | rfl | rfl
  · exact mck_64
  · exact mck_65
  · exact mck_66
  · exact mck_67
  · exact mck_68
  · exact mck_69
  · exact mck_70
  · exact mck_71
  · exact mck_72
  · exact mck_73
  · exact mck_74
  · exact mck_75
  · exact mck_76
  · exact mck_77
  · exact mck_78
  · exact mck_79
theorem mck_c80 {m : Nat} (h1 : 80 ≤ m) (h2 : m < 96) : mChk m = true := by
  rcases (by omega : m = 80 ∨ m = 81 ∨ m = 82 ∨ m = 83 ∨ m = 84 ∨ m = 85 ∨ m = 86 ∨ m = 87 ∨ m = 88 ∨ m = 89 ∨ m = 90 ∨ m = 91 ∨ m = 92 ∨ m = 93 ∨ m = 94 ∨ m = 95) with rfl | rfl | rfl | rfl | rfl | rfl | rfl | rfl | rfl | rfl | rfl | rfl | rfl | rfl | rfl | rfl
  · exact mck_80
  · exact mck_81
  · exact mck_82
  · exact mck_83
  · exact mck_84
  · exact mck_85
  · exact mck_86
  · exact mck_87
  · exact mck_88
  · exact mck_89
  · exact mck_90
  · exact mck_91
  · exact mck_92
  · exact mck_93
  · exact mck_94
  · exact mck_95
theorem mck_c96 {m : Nat} (h1 : 96 ≤ m) (h2 : m < 112) : mChk m = true := by
  rcases (by omega : m = 96 ∨ m = 97 ∨ m = 98 ∨ m = 99 ∨ m = 100 ∨ m = 101 ∨ m = 102 ∨ m = 103 ∨ m = 104 ∨ m = 105 ∨ m = 106 ∨ m = 107 ∨ m = 108 ∨ m = 109 ∨ m = 110 ∨ m = 111) with rfl | rfl | rfl | rfl | rfl | rfl | rfl | rfl | rfl | rfl | rfl | rfl | rfl | rfl | rfl | rfl
  · exact mck_96
  · exact mck_97
  · exact mck_98
  · exact mck_99
  · exact mck_100
  · exact mck_101
  · exact mck_102
  · exact mck_103
  · exact mck_104
  · exact mck_105
  · exact mck_106
  · exact mck_107
  · exact mck_108
  · exact mck_109
  · exact mck_110
  · exact mck_111
theorem mck_c112 {m : Nat} (h1 : 112 ≤ m) (h2 : m < 128) : mChk m = true := by
  rcases (by omega : m = 112 ∨ m = 113 ∨ m = 114 ∨ m = 115 ∨ m = 116 ∨ m = 117 ∨ m = 118 ∨ m = 119 ∨ m = 120 ∨ m = 121 ∨ m = 122 ∨ m = 123 ∨ m = 124 ∨ m = 125 ∨ m = 126 ∨ m = 127) with rfl | rfl | rfl | rfl | rfl | rfl | rfl | rfl | rfl | rfl | rfl | rfl | rfl | rfl | rfl | rfl
  · exact mck_112
  · exact mck_113
  · exact mck_114
  · exact mck_115
  · exact mck_116
  · exact mck_117
  · exact mck_118
  · exact mck_119
  · exact mck_120
  · exact mck_121
  · exact mck_122
  · exact mck_123
  · exact mck_124
  · exact mck_125
  · exact mck_126
  · exact mck_127
theorem mck_c128 {m : Nat} (h1 : 128 ≤ m) (h2 : m < 144) : mChk m = true := by
  rcases (by omega : m = 128 ∨ m = 129 ∨ m = 130 ∨ m = 131 ∨ m = 132 ∨ m = 133 ∨ m = 134 ∨ m = 135 ∨ m = 136 ∨ m = 137 ∨ m = 138 ∨ m = 139 ∨ m = 140 ∨ m = 141 ∨ m = 142 ∨ m = 143) with rfl | rfl | rfl | rfl | rfl | rfl | rfl | rfl | rfl | rfl | rfl | rfl | rfl | rfl | rfl | rfl
  · exact mck_128
  · exact mck_129
  · exact mck_130
  · exact mck_131
  · exact mck_132
  · exact mck_133
  · exact mck_134
  · exact mck_135
  · exact mck_136
  · exact mck_137
  · exact mck_138
  · exact mck_139
  · exact mck_140
  · exact mck_141
  · exact mck_142
  · exact mck_143
theorem mck_c144 {m : Nat} (h1 : 144 ≤ m) (h2 : m < 160) : mChk m = true := by
  rcases (by omega : m = 144 ∨ m = 145 ∨ m = 146 ∨ m = 147 ∨ m = 148 ∨ m = 149 ∨ m = 150 ∨ m = 151 ∨ m = 152 ∨ m = 153 ∨ m = 154 ∨ m = 155 ∨ m = 156 ∨ m = 157 ∨ m = 158 ∨ m = 159) with rfl | rfl | rfl | rfl | rfl | rfl | rfl | rfl | rfl | rfl | rfl | rfl | rfl | rfl | rfl | rfl
  · exact mck_144
  · exact mck_145
  · exact mck_146
  · exact mck_147
  · exact mck_148
  · exact mck_149
  · exact mck_150
  · exact mck_151
  · exact mck_152
  · exact mck_153
  · exact mck_154
  · exact mck_155
  · exact mck_156
  · exact mck_157
  · exact mck_158
  · exact mck_159
theorem mck_c160 {m : Nat} (h1 : 160 ≤ m) (h2 : m < 176) : mChk m = true := by
  rcases (by omega : m = 160 ∨ m = 161 ∨ m = 162 ∨ m = 163 ∨ m = 164 ∨ m = 165 ∨ m = 166 ∨ m = 167 ∨ m = 168 ∨ m = 169 ∨ m = 170 ∨ m = 171 ∨ m = 172 ∨ m = 173 ∨ m = 174 ∨ m = 175) with rfl | rfl | rfl | rfl | rfl | rfl | rfl | rfl | rfl | rfl | rfl | rfl | rfl | rfl | rfl | rfl
  · exact mck_160
  · exact mck_161
  · exact mck_162
  · exact mck_163
  · exact mck_164
  · exact mck_165
  · exact mck_166
  · exact mck_167
  · exact mck_168
  · exact mck_169
  · exact mck_170
  · exact mck_171
  · exact mck_172
  · exact mck_173
  · exact mck_174
  · exact mck_175
theorem mck_c176 {m : Nat} (h1 : 176 ≤ m) (h2 : m < 192) : mChk m = true := by
  rcases (by omega : m = 176 ∨ m = 177 ∨ m = 178 ∨ m = 179 ∨ m = 180 ∨ m = 181 ∨ m = 182 ∨ m = 183 ∨ m = 184 ∨ m = 185 ∨ m = 186 ∨ m = 187 ∨ m = 188 ∨ m = 189 ∨ m = 190 ∨ m = 191) with rfl | rfl | rfl | rfl | rfl | rfl | rfl | rfl | rfl | rfl | rfl | rfl | rfl | rfl | rfl | rfl
  · exact mck_176
  · exact mck_177
  · exact mck_178
  · exact mck_179
  · exact mck_180
  · exact mck_181
  · exact mck_182
  · exact mck_183
  · exact mck_184
  · exact mck_185
  · exact mck_186
  · exact mck_187
  · exact mck_188
  · exact mck_189
  · exact mck_190
  · exact mck_191
theorem mck_c192 {m : Nat} (h1 : 192 ≤ m) (h2 : m < 208) : mChk m = true := by
  rcases (by omega : m = 192 ∨ m = 193 ∨ m = 194 ∨ m = 195 ∨ m = 196 ∨ m = 197 ∨ m = 198 ∨ m = 199 ∨ m = 200 ∨ m = 201 ∨ m = 202 ∨ m = 203 ∨ m = 204 ∨ m = 205 ∨ m = 206 ∨ m = 207) with rfl | rfl | rfl | rfl | rfl | rfl | rfl | rfl | rfl | rfl | rfl | rfl | rfl | rfl | rfl | rfl
  · exact mck_192
  · exact mck_193
  · exact mck_194
  · exact mck_195
  · exact mck_196
  · exact mck_197
  · exact mck_198
  · exact mck_199
  · exact mck_200
  · exact mck_201
  · exact mck_202
  · exact mck_203
  · exact mck_204
  · exact mck_205
  · exact mck_206
  · exact mck_207
theorem mck_c208 {m : Nat} (h1 : 208 ≤ m) (h2 : m < 224) : mChk m = true := by
  rcases (by omega : m = 208 ∨ m = 209 ∨ m = 210 ∨ m = 211 ∨ m = 212 ∨ m = 213 ∨ m = 214 ∨ m = 215 ∨ m = 216 ∨ m = 217 ∨ m = 218 ∨ m = 219 ∨ m = 220 ∨ m = 221 ∨ m = 222 ∨ m = 223) with rfl | rfl | rfl | rfl | rfl | rfl | rfl | rfl | rfl | rfl | rfl | rfl | rfl | rfl | rfl | rfl
  · exact mck_208
  · exact mck_209
  · exact mck_210
  · exact mck_211
  · exact mck_212
  · exact mck_213
  · exact mck_214
  · exact mck_215
  · exact mck_216
  · exact mck_217
  · exact mck_218
  · exact mck_219
  · exact mck_220
  · exact mck_221
  · exact mck_222
  · exact mck_223
theorem mck_c224 {m : Nat} (h1 : 224 ≤ m) (h2 : m < 231) : mChk m = true := by
  rcases (by omega : m = 224 ∨ m = 225 ∨ m = 226 ∨ m = 227 ∨ m = 228 ∨ m = 229 ∨ m = 230) with rfl | rfl | rfl | rfl | rfl | rfl | rfl
  · exact mck_224
  · exact mck_225
  · exact mck_226
  · exact mck_227
  · exact mck_228
  · exact mck_229
  · exact mck_230
theorem mck_all {m : Nat} (h : m < 231) : mChk m = true := by
  rcases (by omega : (0 ≤ m ∧ m < 16) ∨ (16 ≤ m ∧ m < 32) ∨ (32 ≤ m ∧ m < 48) ∨ (48 ≤ m ∧ m < 64) ∨ (64 ≤ m ∧ m < 80) ∨ (80 ≤ m ∧ m < 96) ∨ (96 ≤ m ∧ m < 112) ∨ (112 ≤ m ∧ m < 128) ∨ (128 ≤ m ∧ m < 144) ∨ (144 ≤ m ∧ m < 160) ∨ (160 ≤ m ∧ m < 176) ∨ (176 ≤ m ∧ m < 192) ∨ (192 ≤ m ∧ m < 208) ∨ (208 ≤ m ∧ m < 224) ∨ (224 ≤ m ∧ m < 231)) with h | h | h | h | h | h | h | h | h | h | h | h | h | h | h
  · exact mck_c0 h.1 h.2
  · exact mck_c16 h.1 h.2
  · exact mck_c32 h.1 h.2
  · exact mck_c48 h.1 h.2
  · exact mck_c64 h.1 h.2
  · exact mck_c80 h.1 h.2
  · exact mck_c96 h.1 h.2
  · exact mck_c112 h.1 h.2
  · exact mck_c128 h.1 h.2
  · exact mck_c144 h.1 h.2
  · exact mck_c160 h.1 h.2
  · exact mck_c176 h.1 h.2
  · exact mck_c192 h.1 h.2
  · exact mck_c208 h.1 h.2
  · exact mck_c224 h.1 h.2
