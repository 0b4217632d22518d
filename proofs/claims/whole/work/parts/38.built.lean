/-! printed by gen/trace.py: the law's beginning, both constructors -/
def oq_0 : List oOp := []
def oq_1 : List oOp := (0, 13, 0, 0) :: oq_0
def oq_2 : List oOp := (1, 15, 800, 0) :: oq_1
def oq_3 : List oOp := (3, 60, 0, 1) :: oq_2
def oq_4 : List oOp := (2, 63, 0, -1) :: oq_3
def oq_5 : List oOp := (0, 1, 0, 0) :: oq_4
def oq_6 : List oOp := (2, 0, 2, 0) :: oq_5
def oq_7 : List oOp := (6, 1, 2, 0) :: oq_6
def oq_8 : List oOp := (3, 64, 0, 2) :: oq_7
def oq_9 : List oOp := (0, 6, 0, 0) :: oq_8
def oq_10 : List oOp := (1, 15, 80, 0) :: oq_9
def oq_11 : List oOp := (3, 23, 3, 4) :: oq_10
def oq_12 : List oOp := (1, 15, 80, 0) :: oq_11
def oq_13 : List oOp := (3, 24, 3, 5) :: oq_12
def oq_14 : List oOp := (1, 15, 320, 0) :: oq_13
def oq_15 : List oOp := (3, 25, 3, 6) :: oq_14
def oq_16 : List oOp := (1, 15, 320, 0) :: oq_15
def oq_17 : List oOp := (3, 26, 3, 7) :: oq_16
def oq_18 : List oOp := (1, 15, 80, 0) :: oq_17
def oq_19 : List oOp := (3, 27, 3, 8) :: oq_18
def oq_20 : List oOp := (1, 15, 4, 0) :: oq_19
def oq_21 : List oOp := (3, 30, 3, 9) :: oq_20
def oq_22 : List oOp := (1, 15, 4, 0) :: oq_21
def oq_23 : List oOp := (3, 31, 3, 10) :: oq_22
def oq_24 : List oOp := (3, 65, 0, 3) :: oq_23
def oq_25 : List oOp := (0, 7, 0, 0) :: oq_24
def oq_26 : List oOp := (1, 18, 8, 0) :: oq_25
def oq_27 : List oOp := (3, 34, 11, 12) :: oq_26
def oq_28 : List oOp := (1, 16, 16, 0) :: oq_27
def oq_29 : List oOp := (3, 41, 11, 13) :: oq_28
def oq_30 : List oOp := (1, 19, 16, 0) :: oq_29
def oq_31 : List oOp := (3, 42, 11, 14) :: oq_30
def oq_32 : List oOp := (0, 11, 0, 0) :: oq_31
def oq_33 : List oOp := (2, 6, 15, 1) :: oq_32
def oq_34 : List oOp := (2, 7, 15, 0) :: oq_33
def oq_35 : List oOp := (3, 44, 11, 15) :: oq_34
def oq_36 : List oOp := (0, 11, 0, 0) :: oq_35
def oq_37 : List oOp := (2, 6, 16, 2) :: oq_36
def oq_38 : List oOp := (2, 7, 16, 0) :: oq_37
def oq_39 : List oOp := (3, 45, 11, 16) :: oq_38
def oq_40 : List oOp := (0, 11, 0, 0) :: oq_39
def oq_41 : List oOp := (2, 6, 17, 8) :: oq_40
def oq_42 : List oOp := (2, 7, 17, 0) :: oq_41
def oq_43 : List oOp := (3, 46, 11, 17) :: oq_42
def oq_44 : List oOp := (1, 19, 7, 0) :: oq_43
def oq_45 : List oOp := (3, 47, 11, 18) :: oq_44
def oq_46 : List oOp := (1, 15, 0, 0) :: oq_45
def oq_47 : List oOp := (0, 8, 0, 0) :: oq_46
def oq_48 : List oOp := (2, 6, 20, 3) :: oq_47
def oq_49 : List oOp := (2, 7, 20, 0) :: oq_48
def oq_50 : List oOp := (2, 51, 20, 0) :: oq_49
def oq_51 : List oOp := (3, 52, 20, 19) :: oq_50
def oq_52 : List oOp := (3, 48, 11, 20) :: oq_51
def oq_53 : List oOp := (1, 15, 1, 0) :: oq_52
def oq_54 : List oOp := (5, 21, 0, 1) :: oq_53
def oq_55 : List oOp := (0, 8, 0, 0) :: oq_54
def oq_56 : List oOp := (2, 6, 22, 3) :: oq_55
def oq_57 : List oOp := (2, 7, 22, 0) :: oq_56
def oq_58 : List oOp := (2, 51, 22, 0) :: oq_57
def oq_59 : List oOp := (3, 52, 22, 21) :: oq_58
def oq_60 : List oOp := (3, 49, 11, 22) :: oq_59
def oq_61 : List oOp := (0, 2, 0, 0) :: oq_60
def oq_62 : List oOp := (1, 15, 34, 0) :: oq_61
def oq_63 : List oOp := (3, 3, 23, 24) :: oq_62
def oq_64 : List oOp := (1, 15, 18, 0) :: oq_63
def oq_65 : List oOp := (3, 4, 23, 25) :: oq_64
def oq_66 : List oOp := (1, 15, 18, 0) :: oq_65
def oq_67 : List oOp := (3, 5, 23, 26) :: oq_66
def oq_68 : List oOp := (3, 50, 11, 23) :: oq_67
def oq_69 : List oOp := (2, 37, 11, 0) :: oq_68
def oq_70 : List oOp := (2, 38, 11, -1) :: oq_69
def oq_71 : List oOp := (0, 11, 0, 0) :: oq_70
def oq_72 : List oOp := (2, 6, 27, 0) :: oq_71
def oq_73 : List oOp := (2, 7, 27, 0) :: oq_72
def oq_74 : List oOp := (0, 4, 0, 0) :: oq_73
def oq_75 : List oOp := (1, 19, 8, 0) :: oq_74
def oq_76 : List oOp := (3, 13, 28, 29) :: oq_75
def oq_77 : List oOp := (1, 19, 10, 0) :: oq_76
def oq_78 : List oOp := (3, 14, 28, 30) :: oq_77
def oq_79 : List oOp := (1, 15, 4, 0) :: oq_78
def oq_80 : List oOp := (3, 15, 28, 31) :: oq_79
def oq_81 : List oOp := (1, 15, 4, 0) :: oq_80
def oq_82 : List oOp := (3, 16, 28, 32) :: oq_81
def oq_83 : List oOp := (3, 17, 28, 27) :: oq_82
def oq_84 : List oOp := (4, 12, 0, 28) :: oq_83
def oq_85 : List oOp := (0, 4, 0, 0) :: oq_84
def oq_86 : List oOp := (1, 19, 8, 0) :: oq_85
def oq_87 : List oOp := (3, 13, 33, 34) :: oq_86
def oq_88 : List oOp := (1, 19, 10, 0) :: oq_87
def oq_89 : List oOp := (3, 14, 33, 35) :: oq_88
def oq_90 : List oOp := (1, 15, 4, 0) :: oq_89
def oq_91 : List oOp := (3, 15, 33, 36) :: oq_90
def oq_92 : List oOp := (1, 15, 4, 0) :: oq_91
def oq_93 : List oOp := (3, 16, 33, 37) :: oq_92
def oq_94 : List oOp := (3, 17, 33, 27) :: oq_93
def oq_95 : List oOp := (4, 12, 1, 33) :: oq_94
def oq_96 : List oOp := (0, 4, 0, 0) :: oq_95
def oq_97 : List oOp := (1, 19, 8, 0) :: oq_96
def oq_98 : List oOp := (3, 13, 38, 39) :: oq_97
def oq_99 : List oOp := (1, 19, 10, 0) :: oq_98
def oq_100 : List oOp := (3, 14, 38, 40) :: oq_99
def oq_101 : List oOp := (1, 15, 4, 0) :: oq_100
def oq_102 : List oOp := (3, 15, 38, 41) :: oq_101
def oq_103 : List oOp := (1, 15, 4, 0) :: oq_102
def oq_104 : List oOp := (3, 16, 38, 42) :: oq_103
def oq_105 : List oOp := (3, 17, 38, 27) :: oq_104
def oq_106 : List oOp := (4, 12, 2, 38) :: oq_105
def oq_107 : List oOp := (0, 4, 0, 0) :: oq_106
def oq_108 : List oOp := (1, 19, 8, 0) :: oq_107
def oq_109 : List oOp := (3, 13, 43, 44) :: oq_108
def oq_110 : List oOp := (1, 19, 10, 0) :: oq_109
def oq_111 : List oOp := (3, 14, 43, 45) :: oq_110
def oq_112 : List oOp := (1, 15, 4, 0) :: oq_111
def oq_113 : List oOp := (3, 15, 43, 46) :: oq_112
def oq_114 : List oOp := (1, 15, 4, 0) :: oq_113
def oq_115 : List oOp := (3, 16, 43, 47) :: oq_114
def oq_116 : List oOp := (3, 17, 43, 27) :: oq_115
def oq_117 : List oOp := (4, 12, 3, 43) :: oq_116
def oq_118 : List oOp := (0, 4, 0, 0) :: oq_117
def oq_119 : List oOp := (1, 19, 8, 0) :: oq_118
def oq_120 : List oOp := (3, 13, 48, 49) :: oq_119
def oq_121 : List oOp := (1, 19, 10, 0) :: oq_120
def oq_122 : List oOp := (3, 14, 48, 50) :: oq_121
def oq_123 : List oOp := (1, 15, 4, 0) :: oq_122
def oq_124 : List oOp := (3, 15, 48, 51) :: oq_123
def oq_125 : List oOp := (1, 15, 4, 0) :: oq_124
def oq_126 : List oOp := (3, 16, 48, 52) :: oq_125
def oq_127 : List oOp := (3, 17, 48, 27) :: oq_126
def oq_128 : List oOp := (4, 12, 4, 48) :: oq_127
def oq_129 : List oOp := (0, 4, 0, 0) :: oq_128
def oq_130 : List oOp := (1, 19, 8, 0) :: oq_129
def oq_131 : List oOp := (3, 13, 53, 54) :: oq_130
def oq_132 : List oOp := (1, 19, 10, 0) :: oq_131
def oq_133 : List oOp := (3, 14, 53, 55) :: oq_132
def oq_134 : List oOp := (1, 15, 4, 0) :: oq_133
def oq_135 : List oOp := (3, 15, 53, 56) :: oq_134
def oq_136 : List oOp := (1, 15, 4, 0) :: oq_135
def oq_137 : List oOp := (3, 16, 53, 57) :: oq_136
def oq_138 : List oOp := (3, 17, 53, 27) :: oq_137
def oq_139 : List oOp := (4, 12, 5, 53) :: oq_138
def oq_140 : List oOp := (0, 4, 0, 0) :: oq_139
def oq_141 : List oOp := (1, 19, 8, 0) :: oq_140
def oq_142 : List oOp := (3, 13, 58, 59) :: oq_141
def oq_143 : List oOp := (1, 19, 10, 0) :: oq_142
def oq_144 : List oOp := (3, 14, 58, 60) :: oq_143
def oq_145 : List oOp := (1, 15, 4, 0) :: oq_144
def oq_146 : List oOp := (3, 15, 58, 61) :: oq_145
def oq_147 : List oOp := (1, 15, 4, 0) :: oq_146
def oq_148 : List oOp := (3, 16, 58, 62) :: oq_147
def oq_149 : List oOp := (3, 17, 58, 27) :: oq_148
def oq_150 : List oOp := (4, 12, 6, 58) :: oq_149
def oq_151 : List oOp := (0, 4, 0, 0) :: oq_150
def oq_152 : List oOp := (1, 19, 8, 0) :: oq_151
def oq_153 : List oOp := (3, 13, 63, 64) :: oq_152
def oq_154 : List oOp := (1, 19, 10, 0) :: oq_153
def oq_155 : List oOp := (3, 14, 63, 65) :: oq_154
def oq_156 : List oOp := (1, 15, 4, 0) :: oq_155
def oq_157 : List oOp := (3, 15, 63, 66) :: oq_156
def oq_158 : List oOp := (1, 15, 4, 0) :: oq_157
def oq_159 : List oOp := (3, 16, 63, 67) :: oq_158
def oq_160 : List oOp := (3, 17, 63, 27) :: oq_159
def oq_161 : List oOp := (4, 12, 7, 63) :: oq_160
def oq_162 : List oOp := (0, 11, 0, 0) :: oq_161
def oq_163 : List oOp := (2, 6, 68, 9) :: oq_162
def oq_164 : List oOp := (2, 7, 68, 0) :: oq_163
def oq_165 : List oOp := (4, 18, 0, 68) :: oq_164
def oq_166 : List oOp := (0, 11, 0, 0) :: oq_165
def oq_167 : List oOp := (2, 6, 69, 9) :: oq_166
def oq_168 : List oOp := (2, 7, 69, 1) :: oq_167
def oq_169 : List oOp := (4, 18, 1, 69) :: oq_168
def oq_170 : List oOp := (0, 11, 0, 0) :: oq_169
def oq_171 : List oOp := (2, 6, 70, 9) :: oq_170
def oq_172 : List oOp := (2, 7, 70, 2) :: oq_171
def oq_173 : List oOp := (4, 18, 2, 70) :: oq_172
def oq_174 : List oOp := (0, 11, 0, 0) :: oq_173
def oq_175 : List oOp := (2, 6, 71, 9) :: oq_174
def oq_176 : List oOp := (2, 7, 71, 3) :: oq_175
def oq_177 : List oOp := (4, 18, 3, 71) :: oq_176
def oq_178 : List oOp := (0, 11, 0, 0) :: oq_177
def oq_179 : List oOp := (2, 6, 72, 9) :: oq_178
def oq_180 : List oOp := (2, 7, 72, 4) :: oq_179
def oq_181 : List oOp := (4, 18, 4, 72) :: oq_180
def oq_182 : List oOp := (0, 11, 0, 0) :: oq_181
def oq_183 : List oOp := (2, 6, 73, 9) :: oq_182
def oq_184 : List oOp := (2, 7, 73, 5) :: oq_183
def oq_185 : List oOp := (4, 18, 5, 73) :: oq_184
def oq_186 : List oOp := (0, 11, 0, 0) :: oq_185
def oq_187 : List oOp := (2, 6, 74, 9) :: oq_186
def oq_188 : List oOp := (2, 7, 74, 6) :: oq_187
def oq_189 : List oOp := (4, 18, 6, 74) :: oq_188
def oq_190 : List oOp := (3, 66, 0, 11) :: oq_189
def oq_191 : List oOp := (1, 15, 300, 0) :: oq_190
def oq_192 : List oOp := (3, 67, 0, 75) :: oq_191
def oq_193 : List oOp := (0, 14, 0, 0) :: oq_192
def oq_194 : List oOp := (2, 70, 76, -1) :: oq_193
def oq_195 : List oOp := (1, 15, 800, 0) :: oq_194
def oq_196 : List oOp := (3, 71, 76, 77) :: oq_195
def oq_197 : List oOp := (1, 15, 1100000, 0) :: oq_196
def oq_198 : List oOp := (3, 73, 76, 78) :: oq_197
def oq_199 : List oOp := (1, 15, 1100000, 0) :: oq_198
def oq_200 : List oOp := (3, 74, 76, 79) :: oq_199
def oq_201 : List oOp := (2, 75, 76, 16) :: oq_200
def oq_202 : List oOp := (1, 15, 300, 0) :: oq_201
def oq_203 : List oOp := (3, 77, 76, 80) :: oq_202
def oq_204 : List oOp := (1, 15, 300, 0) :: oq_203
def oq_205 : List oOp := (3, 78, 76, 81) :: oq_204
def oq_206 : List oOp := (1, 15, 300, 0) :: oq_205
def oq_207 : List oOp := (3, 79, 76, 82) :: oq_206
def oq_208 : List oOp := (1, 15, 300, 0) :: oq_207
def oq_209 : List oOp := (3, 80, 76, 83) :: oq_208
def oq_210 : List oOp := (1, 15, 300, 0) :: oq_209
def oq_211 : List oOp := (3, 81, 76, 84) :: oq_210
def oq_212 : List oOp := (1, 15, 300, 0) :: oq_211
def oq_213 : List oOp := (3, 82, 76, 85) :: oq_212
def oq_214 : List oOp := (1, 15, 300, 0) :: oq_213
def oq_215 : List oOp := (3, 83, 76, 86) :: oq_214
def oq_216 : List oOp := (1, 15, 300, 0) :: oq_215
def oq_217 : List oOp := (3, 84, 76, 87) :: oq_216
def oq_218 : List oOp := (1, 15, 300, 0) :: oq_217
def oq_219 : List oOp := (3, 85, 76, 88) :: oq_218
def oq_220 : List oOp := (1, 15, 2100, 0) :: oq_219
def oq_221 : List oOp := (3, 89, 76, 89) :: oq_220
def oq_222 : List oOp := (1, 15, 2100, 0) :: oq_221
def oq_223 : List oOp := (3, 90, 76, 90) :: oq_222
def oq_224 : List oOp := (1, 16, 2100, 0) :: oq_223
def oq_225 : List oOp := (3, 91, 76, 91) :: oq_224
def oq_226 : List oOp := (2, 94, 76, -1) :: oq_225
def oq_227 : List oOp := (2, 96, 76, -1) :: oq_226
def oq_228 : List oOp := (1, 15, 8, 0) :: oq_227
def oq_229 : List oOp := (3, 98, 76, 92) :: oq_228
def oq_230 : List oOp := (1, 15, 8, 0) :: oq_229
def oq_231 : List oOp := (3, 99, 76, 93) :: oq_230
def oq_232 : List oOp := (1, 15, 8, 0) :: oq_231
def oq_233 : List oOp := (3, 100, 76, 94) :: oq_232
def oq_234 : List oOp := (1, 15, 8, 0) :: oq_233
def oq_235 : List oOp := (3, 101, 76, 95) :: oq_234
def oq_236 : List oOp := (1, 15, 80, 0) :: oq_235
def oq_237 : List oOp := (3, 102, 76, 96) :: oq_236
def oq_238 : List oOp := (1, 15, 64, 0) :: oq_237
def oq_239 : List oOp := (3, 103, 76, 97) :: oq_238
def oq_240 : List oOp := (1, 15, 32, 0) :: oq_239
def oq_241 : List oOp := (3, 104, 76, 98) :: oq_240
def oq_242 : List oOp := (1, 15, 32, 0) :: oq_241
def oq_243 : List oOp := (3, 105, 76, 99) :: oq_242
def oq_244 : List oOp := (1, 16, 16, 0) :: oq_243
def oq_245 : List oOp := (3, 107, 76, 100) :: oq_244
def oq_246 : List oOp := (1, 15, 16, 0) :: oq_245
def oq_247 : List oOp := (3, 108, 76, 101) :: oq_246
def oq_248 : List oOp := (1, 15, 40, 0) :: oq_247
def oq_249 : List oOp := (3, 109, 76, 102) :: oq_248
def oq_250 : List oOp := (1, 15, 40, 0) :: oq_249
def oq_251 : List oOp := (3, 110, 76, 103) :: oq_250
def oq_252 : List oOp := (1, 15, 40, 0) :: oq_251
def oq_253 : List oOp := (3, 111, 76, 104) :: oq_252
def oq_254 : List oOp := (1, 15, 40, 0) :: oq_253
def oq_255 : List oOp := (3, 112, 76, 105) :: oq_254
def oq_256 : List oOp := (1, 17, 8, 0) :: oq_255
def oq_257 : List oOp := (3, 126, 76, 106) :: oq_256
def oq_258 : List oOp := (1, 15, 8, 0) :: oq_257
def oq_259 : List oOp := (3, 127, 76, 107) :: oq_258
def oq_260 : List oOp := (1, 15, 8, 0) :: oq_259
def oq_261 : List oOp := (3, 128, 76, 108) :: oq_260
def oq_262 : List oOp := (1, 15, 8, 0) :: oq_261
def oq_263 : List oOp := (3, 129, 76, 109) :: oq_262
def oq_264 : List oOp := (1, 15, 900, 0) :: oq_263
def oq_265 : List oOp := (3, 130, 76, 110) :: oq_264
def oq_266 : List oOp := (1, 15, 300, 0) :: oq_265
def oq_267 : List oOp := (3, 131, 76, 111) :: oq_266
def oq_268 : List oOp := (1, 15, 160, 0) :: oq_267
def oq_269 : List oOp := (3, 133, 76, 112) :: oq_268
def oq_270 : List oOp := (1, 15, 160, 0) :: oq_269
def oq_271 : List oOp := (3, 134, 76, 113) :: oq_270
def oq_272 : List oOp := (1, 15, 640, 0) :: oq_271
def oq_273 : List oOp := (3, 135, 76, 114) :: oq_272
def oq_274 : List oOp := (1, 15, 640, 0) :: oq_273
def oq_275 : List oOp := (3, 136, 76, 115) :: oq_274
def oq_276 : List oOp := (1, 17, 160, 0) :: oq_275
def oq_277 : List oOp := (3, 137, 76, 116) :: oq_276
def oq_278 : List oOp := (1, 15, 2000, 0) :: oq_277
def oq_279 : List oOp := (3, 141, 76, 117) :: oq_278
def oq_280 : List oOp := (1, 16, 1, 0) :: oq_279
set_option maxRecDepth 100000 in
set_option maxHeartbeats 40000000 in
theorem lw_built {sp : ox_E} (hsp : ox_mono sp) {S : ox_St} (hb : 0 < S.n) {x0 : Nat} {Q : ox_Q} (h : c_238_23 (lw_E (ox_M sp 1200)) x0 (S.n + 0) (S.n + 76) (S.n + 118) 0 (ap S.n oq_280 S) 599881 5072243 Q) : ox_C (lw_E (ox_M sp 1200)) (some .boolean) lw_cx lw_cut Q 0 (ox_loc 7 [.inr (.inr x0)]) [] S 600000 7290000 := by
  refine f_238 (lw_E_mono (ox_M_mono hsp _)) ?_
  refine ⟨(by decide), (by decide), (by decide), (ap_nz (S := S) hb 0), (by decide), 75, 2450, (by decide), (by decide), ?_⟩
  refine Or.inr (Or.inr ⟨by decide, by decide, ?_⟩)
  refine f_94 (d := 1199) hsp (S := (ap S.n oq_1 S)) (mr := 75) (sr := 2450) (x0 := (S.n + 0)) ?_
  refine ⟨(ap_nz (S := S) hb 0), (by decide), (by decide), (by decide), (by decide), (by decide), (ap_has (b := S.n) (S := S) (l := oq_2) (a := 0) (v := 13) rfl (by decide +kernel) rfl), (ap_has (b := S.n) (S := S) (l := oq_3) (a := 0) (v := 13) rfl (by decide +kernel) rfl), (by decide), (by decide), (by decide), (ap_nz (S := S) hb 2), (by decide), 0, 0, (by decide), (by decide), ?_⟩
  refine f_219 (d := 1198) hsp (S := (ap S.n oq_5 S)) (mr := 0) (sr := 0) (x0 := (S.n + 2)) ?_
  refine ⟨(by decide), (ap_nz (S := S) hb 2), (by decide), 0, 0, (by decide), (by decide), ?_⟩
  refine f_218 (d := 1197) hsp (S := (ap S.n oq_5 S)) (mr := 0) (sr := 0) (x0 := (S.n + 2)) ?_
  refine ⟨(by decide), (ap_nz (S := S) hb 2), (by decide), 0, 0, (by decide), (by decide), ?_⟩
  refine f_217 (d := 1196) hsp (S := (ap S.n oq_5 S)) (mr := 0) (sr := 0) (x0 := (S.n + 2)) ?_
  refine ⟨(ap_nz (S := S) hb 2), (by decide), rfl, ?_⟩
  refine f_218_4 (E := (ox_M sp 1197)) (ox_M_mono hsp _) (S := (ap S.n oq_5 S)) (mr := 0) (sr := 0) (x0 := (S.n + 2)) ?_
  refine ⟨(ap_has (b := S.n) (S := S) (l := oq_5) (a := 2) (v := 1) rfl (by decide +kernel) rfl), rfl, ?_⟩
  refine f_219_4 (E := (ox_M sp 1198)) (ox_M_mono hsp _) (S := (ap S.n oq_6 S)) (mr := 0) (sr := 0) (x0 := (S.n + 2)) ?_
  refine ⟨(ap_has (b := S.n) (S := S) (l := oq_6) (a := 2) (v := 1) rfl (by decide +kernel) rfl), rfl, ?_⟩
  refine f_94_26 (E := (ox_M sp 1199)) (ox_M_mono hsp _) (S := (ap S.n oq_7 S)) (mr := 73) (sr := 1647) (x0 := (S.n + 0)) (y0 := (S.n + 2)) (y1 := (S.n + 0)) ?_
  refine ⟨(ap_has (b := S.n) (S := S) (l := oq_7) (a := 0) (v := 13) rfl (by decide +kernel) rfl), (by decide), (by decide), (by decide), (ap_nz (S := S) hb 3), (by decide), 7, 888, (by decide), (by decide), ?_⟩
  refine f_29 (d := 1198) hsp (S := (ap S.n oq_9 S)) (mr := 7) (sr := 888) (x0 := (S.n + 3)) ?_
  refine ⟨(ap_nz (S := S) hb 3), (by decide), (by decide), (by decide), (by decide), (by decide), (ap_has (b := S.n) (S := S) (l := oq_10) (a := 3) (v := 6) rfl (by decide +kernel) rfl), (by decide), (by decide), (by decide), (by decide), (ap_has (b := S.n) (S := S) (l := oq_12) (a := 3) (v := 6) rfl (by decide +kernel) rfl), (by decide), (by decide), (by decide), (by decide), (ap_has (b := S.n) (S := S) (l := oq_14) (a := 3) (v := 6) rfl (by decide +kernel) rfl), (by decide), (by decide), (by decide), (by decide), (ap_has (b := S.n) (S := S) (l := oq_16) (a := 3) (v := 6) rfl (by decide +kernel) rfl), (by decide), (by decide), (by decide), (by decide), (ap_has (b := S.n) (S := S) (l := oq_18) (a := 3) (v := 6) rfl (by decide +kernel) rfl), (by decide), (by decide), (by decide), (by decide), (ap_has (b := S.n) (S := S) (l := oq_20) (a := 3) (v := 6) rfl (by decide +kernel) rfl), (by decide), (by decide), (by decide), (by decide), (ap_has (b := S.n) (S := S) (l := oq_22) (a := 3) (v := 6) rfl (by decide +kernel) rfl), rfl, ?_⟩
  refine f_94_37 (E := (ox_M sp 1199)) (ox_M_mono hsp _) (S := (ap S.n oq_23 S)) (mr := 65) (sr := 748) (x0 := (S.n + 0)) (y0 := (S.n + 3)) (y1 := (S.n + 0)) ?_
  refine ⟨(ap_has (b := S.n) (S := S) (l := oq_23) (a := 0) (v := 13) rfl (by decide +kernel) rfl), (by decide), (by decide), (by decide), (ap_nz (S := S) hb 11), (by decide), 63, 431, (by decide), (by decide), ?_⟩
  refine f_41 (d := 1198) hsp (S := (ap S.n oq_25 S)) (mr := 63) (sr := 431) (x0 := (S.n + 11)) ?_
  refine ⟨(ap_nz (S := S) hb 11), (by decide), (by decide), (by decide), (by decide), (by decide), (ap_has (b := S.n) (S := S) (l := oq_26) (a := 11) (v := 7) rfl (by decide +kernel) rfl), (by decide), (by decide), (by decide), (by decide), (ap_has (b := S.n) (S := S) (l := oq_28) (a := 11) (v := 7) rfl (by decide +kernel) rfl), (by decide), (by decide), (by decide), (by decide), (ap_has (b := S.n) (S := S) (l := oq_30) (a := 11) (v := 7) rfl (by decide +kernel) rfl), (by decide), (by decide), (by decide), (ap_nz (S := S) hb 15), (by decide), 0, 0, (by decide), (by decide), ?_⟩
  refine f_89 (d := 1197) hsp (S := (ap S.n oq_32 S)) (mr := 0) (sr := 0) (x0 := (S.n + 15)) (x1 := 1) (x2 := 0) ?_
  refine ⟨(ap_nz (S := S) hb 15), (by decide), (ap_has (b := S.n) (S := S) (l := oq_32) (a := 15) (v := 11) rfl (by decide +kernel) rfl), (ap_has (b := S.n) (S := S) (l := oq_33) (a := 15) (v := 11) rfl (by decide +kernel) rfl), rfl, ?_⟩
  refine f_41_40 (E := (ox_M sp 1198)) (ox_M_mono hsp _) (S := (ap S.n oq_34 S)) (mr := 59) (sr := 389) (x0 := (S.n + 11)) (y0 := (S.n + 15)) (y1 := (S.n + 11)) ?_
  refine ⟨(ap_has (b := S.n) (S := S) (l := oq_34) (a := 11) (v := 7) rfl (by decide +kernel) rfl), (by decide), (by decide), (by decide), (ap_nz (S := S) hb 16), (by decide), 0, 0, (by decide), (by decide), ?_⟩
  refine f_89 (d := 1197) hsp (S := (ap S.n oq_36 S)) (mr := 0) (sr := 0) (x0 := (S.n + 16)) (x1 := 2) (x2 := 0) ?_
  refine ⟨(ap_nz (S := S) hb 16), (by decide), (ap_has (b := S.n) (S := S) (l := oq_36) (a := 16) (v := 11) rfl (by decide +kernel) rfl), (ap_has (b := S.n) (S := S) (l := oq_37) (a := 16) (v := 11) rfl (by decide +kernel) rfl), rfl, ?_⟩
  refine f_41_53 (E := (ox_M sp 1198)) (ox_M_mono hsp _) (S := (ap S.n oq_38 S)) (mr := 58) (sr := 387) (x0 := (S.n + 11)) (y0 := (S.n + 16)) (y1 := (S.n + 11)) ?_
  refine ⟨(ap_has (b := S.n) (S := S) (l := oq_38) (a := 11) (v := 7) rfl (by decide +kernel) rfl), (by decide), (by decide), (by decide), (ap_nz (S := S) hb 17), (by decide), 0, 0, (by decide), (by decide), ?_⟩
  refine f_89 (d := 1197) hsp (S := (ap S.n oq_40 S)) (mr := 0) (sr := 0) (x0 := (S.n + 17)) (x1 := 8) (x2 := 0) ?_
  refine ⟨(ap_nz (S := S) hb 17), (by decide), (ap_has (b := S.n) (S := S) (l := oq_40) (a := 17) (v := 11) rfl (by decide +kernel) rfl), (ap_has (b := S.n) (S := S) (l := oq_41) (a := 17) (v := 11) rfl (by decide +kernel) rfl), rfl, ?_⟩
  refine f_41_67 (E := (ox_M sp 1198)) (ox_M_mono hsp _) (S := (ap S.n oq_42 S)) (mr := 57) (sr := 385) (x0 := (S.n + 11)) (y0 := (S.n + 17)) (y1 := (S.n + 11)) ?_
  refine ⟨(ap_has (b := S.n) (S := S) (l := oq_42) (a := 11) (v := 7) rfl (by decide +kernel) rfl), (by decide), (by decide), (by decide), (by decide), (ap_has (b := S.n) (S := S) (l := oq_44) (a := 11) (v := 7) rfl (by decide +kernel) rfl), (by decide), (by decide), 2, 4, (by decide), (by decide), ?_⟩
  refine f_79 (d := 1197) hsp (S := (ap S.n oq_45 S)) (mr := 2) (sr := 4) (x0 := 0) ?_
  refine ⟨(by decide), ?_⟩
  refine f_79_11 (E := (ox_M sp 1197)) (ox_M_mono hsp _) (S := (ap S.n oq_45 S)) (mr := 2) (sr := 4) (x0 := 0) (x2 := 0) (x4 := 0) (x5 := 0) ?_
  refine ⟨fun _ => ⟨(by decide), (by decide), (by decide), (by decide), ?_⟩, fun h => absurd h (by decide)⟩
  refine f_79_47 (E := (ox_M sp 1197)) (ox_M_mono hsp _) (S := (ap S.n oq_46 S)) (mr := 1) (sr := 4) (x0 := 0) (x2 := 0) (x4 := 0) (x5 := (S.n + 19)) (x6 := 0) ?_
  refine ⟨fun _ => ⟨(by decide), (by decide), ⟨fun _ => ⟨(by decide), (ap_nz (S := S) hb 20), (by decide), 0, 0, (by decide), (by decide), ?_⟩, fun h => absurd h (by decide)⟩⟩, fun h => absurd h (by decide)⟩
  refine f_78 (d := 1196) hsp (S := (ap S.n oq_47 S)) (mr := 0) (sr := 0) (x0 := (S.n + 20)) (x1 := 0) (x2 := (S.n + 19)) ?_
  refine ⟨(by decide), (ap_nz (S := S) hb 20), (by decide), 0, 0, (by decide), (by decide), ?_⟩
  refine f_89 (d := 1195) hsp (S := (ap S.n oq_47 S)) (mr := 0) (sr := 0) (x0 := (S.n + 20)) (x1 := 3) (x2 := 0) ?_
  refine ⟨(ap_nz (S := S) hb 20), (by decide), (ap_has (b := S.n) (S := S) (l := oq_47) (a := 20) (v := 8) rfl (by decide +kernel) rfl), (ap_has (b := S.n) (S := S) (l := oq_48) (a := 20) (v := 8) rfl (by decide +kernel) rfl), rfl, ?_⟩
  refine f_78_6 (E := (ox_M sp 1196)) (ox_M_mono hsp _) (S := (ap S.n oq_49 S)) (mr := 0) (sr := 0) (x0 := (S.n + 20)) (x1 := 0) (x2 := (S.n + 19)) ?_
  refine ⟨(ap_has (b := S.n) (S := S) (l := oq_49) (a := 20) (v := 8) rfl (by decide +kernel) rfl), (by decide), (ap_has (b := S.n) (S := S) (l := oq_50) (a := 20) (v := 8) rfl (by decide +kernel) rfl), rfl, ?_⟩
  refine f_79_97 (E := (ox_M sp 1197)) (ox_M_mono hsp _) (S := (ap S.n oq_51 S)) (mr := 0) (sr := 0) (x0 := 0) (x2 := 0) (x4 := 0) (x5 := (S.n + 19)) (x6 := 0) (y0 := (S.n + 20)) ?_
  refine ⟨rfl, ?_⟩
  refine f_41_84 (E := (ox_M sp 1198)) (ox_M_mono hsp _) (S := (ap S.n oq_51 S)) (mr := 54) (sr := 374) (x0 := (S.n + 11)) (y0 := (S.n + 20)) (y1 := (S.n + 11)) ?_
  refine ⟨(ap_has (b := S.n) (S := S) (l := oq_51) (a := 11) (v := 7) rfl (by decide +kernel) rfl), (by decide), (by decide), 2, 5, (by decide), (by decide), ?_⟩
  refine f_79 (d := 1197) hsp (S := (ap S.n oq_52 S)) (mr := 2) (sr := 5) (x0 := 1) ?_
  refine ⟨(by decide), ?_⟩
  refine f_79_11 (E := (ox_M sp 1197)) (ox_M_mono hsp _) (S := (ap S.n oq_52 S)) (mr := 2) (sr := 5) (x0 := 1) (x2 := 1) (x4 := 0) (x5 := 1) ?_
  refine ⟨fun h => absurd h (by decide), fun _ => ⟨fun h => absurd h (by decide), fun _ => ?_⟩⟩
  refine f_79_11 (E := (ox_M sp 1197)) (ox_M_mono hsp _) (S := (ap S.n oq_52 S)) (mr := 2) (sr := 5) (x0 := 1) (x2 := 1) (x4 := 1) (x5 := 0) ?_
  refine ⟨fun _ => ⟨(by decide), (by decide), (by decide), (by decide), ?_⟩, fun h => absurd h (by decide)⟩
  refine f_79_47 (E := (ox_M sp 1197)) (ox_M_mono hsp _) (S := (ap S.n oq_53 S)) (mr := 1) (sr := 4) (x0 := 1) (x2 := 1) (x4 := 1) (x5 := (S.n + 21)) (x6 := 0) ?_
  refine ⟨fun h => absurd h (by decide), fun _ => ⟨(ap_K (b := S.n) (S := S) rfl oq_53 (a := 21) (v := 15) (by decide +kernel)), (ap_in (b := S.n) (S := S) (l := oq_53) (a := 21) (v := 1) rfl (by decide +kernel) (by decide)), ?_⟩⟩
  refine f_79_47 (E := (ox_M sp 1197)) (ox_M_mono hsp _) (S := (ap S.n oq_54 S)) (mr := 1) (sr := 4) (x0 := 1) (x2 := 1) (x4 := 1) (x5 := (S.n + 21)) (x6 := 1) ?_
  refine ⟨fun _ => ⟨(by decide), (by decide), ⟨fun _ => ⟨(by decide), (ap_nz (S := S) hb 22), (by decide), 0, 0, (by decide), (by decide), ?_⟩, fun h => absurd h (by decide)⟩⟩, fun h => absurd h (by decide)⟩
  refine f_78 (d := 1196) hsp (S := (ap S.n oq_55 S)) (mr := 0) (sr := 0) (x0 := (S.n + 22)) (x1 := 0) (x2 := (S.n + 21)) ?_
  refine ⟨(by decide), (ap_nz (S := S) hb 22), (by decide), 0, 0, (by decide), (by decide), ?_⟩
  refine f_89 (d := 1195) hsp (S := (ap S.n oq_55 S)) (mr := 0) (sr := 0) (x0 := (S.n + 22)) (x1 := 3) (x2 := 0) ?_
  refine ⟨(ap_nz (S := S) hb 22), (by decide), (ap_has (b := S.n) (S := S) (l := oq_55) (a := 22) (v := 8) rfl (by decide +kernel) rfl), (ap_has (b := S.n) (S := S) (l := oq_56) (a := 22) (v := 8) rfl (by decide +kernel) rfl), rfl, ?_⟩
  refine f_78_6 (E := (ox_M sp 1196)) (ox_M_mono hsp _) (S := (ap S.n oq_57 S)) (mr := 0) (sr := 0) (x0 := (S.n + 22)) (x1 := 0) (x2 := (S.n + 21)) ?_
  refine ⟨(ap_has (b := S.n) (S := S) (l := oq_57) (a := 22) (v := 8) rfl (by decide +kernel) rfl), (by decide), (ap_has (b := S.n) (S := S) (l := oq_58) (a := 22) (v := 8) rfl (by decide +kernel) rfl), rfl, ?_⟩
  refine f_79_97 (E := (ox_M sp 1197)) (ox_M_mono hsp _) (S := (ap S.n oq_59 S)) (mr := 0) (sr := 0) (x0 := 1) (x2 := 1) (x4 := 1) (x5 := (S.n + 21)) (x6 := 1) (y0 := (S.n + 22)) ?_
  refine ⟨rfl, ?_⟩
  refine f_41_92 (E := (ox_M sp 1198)) (ox_M_mono hsp _) (S := (ap S.n oq_59 S)) (mr := 52) (sr := 369) (x0 := (S.n + 11)) (y0 := (S.n + 22)) (y1 := (S.n + 11)) ?_
  refine ⟨(ap_has (b := S.n) (S := S) (l := oq_59) (a := 11) (v := 7) rfl (by decide +kernel) rfl), (by decide), (by decide), (by decide), (ap_nz (S := S) hb 23), (by decide), 3, 70, (by decide), (by decide), ?_⟩
  refine f_0 (d := 1197) hsp (S := (ap S.n oq_61 S)) (mr := 3) (sr := 70) (x0 := (S.n + 23)) ?_
  refine ⟨(ap_nz (S := S) hb 23), (by decide), (by decide), (by decide), (by decide), (by decide), (ap_has (b := S.n) (S := S) (l := oq_62) (a := 23) (v := 2) rfl (by decide +kernel) rfl), (by decide), (by decide), (by decide), (by decide), (ap_has (b := S.n) (S := S) (l := oq_64) (a := 23) (v := 2) rfl (by decide +kernel) rfl), (by decide), (by decide), (by decide), (by decide), (ap_has (b := S.n) (S := S) (l := oq_66) (a := 23) (v := 2) rfl (by decide +kernel) rfl), rfl, ?_⟩
  refine f_41_103 (E := (ox_M sp 1198)) (ox_M_mono hsp _) (S := (ap S.n oq_67 S)) (mr := 48) (sr := 296) (x0 := (S.n + 11)) (y0 := (S.n + 23)) (y1 := (S.n + 11)) ?_
  refine ⟨(ap_has (b := S.n) (S := S) (l := oq_67) (a := 11) (v := 7) rfl (by decide +kernel) rfl), (ap_has (b := S.n) (S := S) (l := oq_68) (a := 11) (v := 7) rfl (by decide +kernel) rfl), (ap_has (b := S.n) (S := S) (l := oq_69) (a := 11) (v := 7) rfl (by decide +kernel) rfl), (by decide), (by decide), (by decide), (ap_nz (S := S) hb 27), (by decide), 0, 0, (by decide), (by decide), ?_⟩
  refine f_89 (d := 1197) hsp (S := (ap S.n oq_71 S)) (mr := 0) (sr := 0) (x0 := (S.n + 27)) (x1 := 0) (x2 := 0) ?_
  refine ⟨(ap_nz (S := S) hb 27), (by decide), (ap_has (b := S.n) (S := S) (l := oq_71) (a := 27) (v := 11) rfl (by decide +kernel) rfl), (ap_has (b := S.n) (S := S) (l := oq_72) (a := 27) (v := 11) rfl (by decide +kernel) rfl), rfl, ?_⟩
  refine f_41_125 (E := (ox_M sp 1198)) (ox_M_mono hsp _) (S := (ap S.n oq_73 S)) (mr := 47) (sr := 294) (x0 := (S.n + 11)) (y0 := (S.n + 27)) ?_
  refine f_41_128 (E := (ox_M sp 1198)) (ox_M_mono hsp _) (S := (ap S.n oq_73 S)) (mr := 47) (sr := 294) (x0 := (S.n + 11)) (x1 := (S.n + 27)) (x2 := 0) ?_
  refine ⟨fun h => absurd h (by decide), fun _ => ⟨(ap_has (b := S.n) (S := S) (l := oq_73) (a := 11) (v := 7) rfl (by decide +kernel) rfl), (by decide), (by decide), (by decide), (ap_nz (S := S) hb 28), (by decide), 4, 26, (by decide), (by decide), ?_⟩⟩
  rw [show (ap S.n oq_73 S).R 34 (S.n + 11) = S.n + 12 from ap_R (b := S.n) (S := S) (F := 34) (a := 11) (v := 14) rfl hb oq_73 (by decide +kernel)]
  refine f_17 (d := 1197) hsp (S := (ap S.n oq_74 S)) (mr := 4) (sr := 26) (x0 := (S.n + 28)) (x1 := (S.n + 27)) ?_
  refine ⟨(ap_nz (S := S) hb 28), (by decide), (by decide), (by decide), (by decide), (by decide), (ap_has (b := S.n) (S := S) (l := oq_75) (a := 28) (v := 4) rfl (by decide +kernel) rfl), (by decide), (by decide), (by decide), (by decide), (ap_has (b := S.n) (S := S) (l := oq_77) (a := 28) (v := 4) rfl (by decide +kernel) rfl), (by decide), (by decide), (by decide), (by decide), (ap_has (b := S.n) (S := S) (l := oq_79) (a := 28) (v := 4) rfl (by decide +kernel) rfl), (by decide), (by decide), (by decide), (by decide), (ap_has (b := S.n) (S := S) (l := oq_81) (a := 28) (v := 4) rfl (by decide +kernel) rfl), (ap_has (b := S.n) (S := S) (l := oq_82) (a := 28) (v := 4) rfl (by decide +kernel) rfl), rfl, ?_⟩
  refine f_41_147 (E := (ox_M sp 1198)) (ox_M_mono hsp _) (S := (ap S.n oq_83 S)) (mr := 42) (sr := 259) (x0 := (S.n + 11)) (x1 := (S.n + 27)) (x2 := 0) (y0 := (S.n + 28)) (y1 := 0) (y2 := (S.n + 12)) ?_
  refine ⟨(ap_rd (b := S.n) (S := S) (l := oq_83) (a := 12) (v := 18) rfl (by decide +kernel) rfl), (ap_in (b := S.n) (S := S) (l := oq_83) (a := 12) (v := 8) rfl (by decide +kernel) (by decide)), (ap_asg (b := S.n) (S := S) (l := oq_83) (a := 12) (a2 := 28) (v := 18) (v2 := 4) rfl (by decide +kernel) (by decide +kernel) rfl), ?_⟩
  refine f_41_128 (E := (ox_M sp 1198)) (ox_M_mono hsp _) (S := (ap S.n oq_84 S)) (mr := 42) (sr := 259) (x0 := (S.n + 11)) (x1 := (S.n + 27)) (x2 := 1) ?_
  refine ⟨fun h => absurd h (by decide), fun _ => ⟨(ap_has (b := S.n) (S := S) (l := oq_84) (a := 11) (v := 7) rfl (by decide +kernel) rfl), (by decide), (by decide), (by decide), (ap_nz (S := S) hb 33), (by decide), 4, 26, (by decide), (by decide), ?_⟩⟩
  rw [show (ap S.n oq_84 S).R 34 (S.n + 11) = S.n + 12 from ap_R (b := S.n) (S := S) (F := 34) (a := 11) (v := 14) rfl hb oq_84 (by decide +kernel)]
  refine f_17 (d := 1197) hsp (S := (ap S.n oq_85 S)) (mr := 4) (sr := 26) (x0 := (S.n + 33)) (x1 := (S.n + 27)) ?_
  refine ⟨(ap_nz (S := S) hb 33), (by decide), (by decide), (by decide), (by decide), (by decide), (ap_has (b := S.n) (S := S) (l := oq_86) (a := 33) (v := 4) rfl (by decide +kernel) rfl), (by decide), (by decide), (by decide), (by decide), (ap_has (b := S.n) (S := S) (l := oq_88) (a := 33) (v := 4) rfl (by decide +kernel) rfl), (by decide), (by decide), (by decide), (by decide), (ap_has (b := S.n) (S := S) (l := oq_90) (a := 33) (v := 4) rfl (by decide +kernel) rfl), (by decide), (by decide), (by decide), (by decide), (ap_has (b := S.n) (S := S) (l := oq_92) (a := 33) (v := 4) rfl (by decide +kernel) rfl), (ap_has (b := S.n) (S := S) (l := oq_93) (a := 33) (v := 4) rfl (by decide +kernel) rfl), rfl, ?_⟩
  refine f_41_147 (E := (ox_M sp 1198)) (ox_M_mono hsp _) (S := (ap S.n oq_94 S)) (mr := 37) (sr := 224) (x0 := (S.n + 11)) (x1 := (S.n + 27)) (x2 := 1) (y0 := (S.n + 33)) (y1 := 1) (y2 := (S.n + 12)) ?_
  refine ⟨(ap_rd (b := S.n) (S := S) (l := oq_94) (a := 12) (v := 18) rfl (by decide +kernel) rfl), (ap_in (b := S.n) (S := S) (l := oq_94) (a := 12) (v := 8) rfl (by decide +kernel) (by decide)), (ap_asg (b := S.n) (S := S) (l := oq_94) (a := 12) (a2 := 33) (v := 18) (v2 := 4) rfl (by decide +kernel) (by decide +kernel) rfl), ?_⟩
  refine f_41_128 (E := (ox_M sp 1198)) (ox_M_mono hsp _) (S := (ap S.n oq_95 S)) (mr := 37) (sr := 224) (x0 := (S.n + 11)) (x1 := (S.n + 27)) (x2 := 2) ?_
  refine ⟨fun h => absurd h (by decide), fun _ => ⟨(ap_has (b := S.n) (S := S) (l := oq_95) (a := 11) (v := 7) rfl (by decide +kernel) rfl), (by decide), (by decide), (by decide), (ap_nz (S := S) hb 38), (by decide), 4, 26, (by decide), (by decide), ?_⟩⟩
  rw [show (ap S.n oq_95 S).R 34 (S.n + 11) = S.n + 12 from ap_R (b := S.n) (S := S) (F := 34) (a := 11) (v := 14) rfl hb oq_95 (by decide +kernel)]
  refine f_17 (d := 1197) hsp (S := (ap S.n oq_96 S)) (mr := 4) (sr := 26) (x0 := (S.n + 38)) (x1 := (S.n + 27)) ?_
  refine ⟨(ap_nz (S := S) hb 38), (by decide), (by decide), (by decide), (by decide), (by decide), (ap_has (b := S.n) (S := S) (l := oq_97) (a := 38) (v := 4) rfl (by decide +kernel) rfl), (by decide), (by decide), (by decide), (by decide), (ap_has (b := S.n) (S := S) (l := oq_99) (a := 38) (v := 4) rfl (by decide +kernel) rfl), (by decide), (by decide), (by decide), (by decide), (ap_has (b := S.n) (S := S) (l := oq_101) (a := 38) (v := 4) rfl (by decide +kernel) rfl), (by decide), (by decide), (by decide), (by decide), (ap_has (b := S.n) (S := S) (l := oq_103) (a := 38) (v := 4) rfl (by decide +kernel) rfl), (ap_has (b := S.n) (S := S) (l := oq_104) (a := 38) (v := 4) rfl (by decide +kernel) rfl), rfl, ?_⟩
  refine f_41_147 (E := (ox_M sp 1198)) (ox_M_mono hsp _) (S := (ap S.n oq_105 S)) (mr := 32) (sr := 189) (x0 := (S.n + 11)) (x1 := (S.n + 27)) (x2 := 2) (y0 := (S.n + 38)) (y1 := 2) (y2 := (S.n + 12)) ?_
  refine ⟨(ap_rd (b := S.n) (S := S) (l := oq_105) (a := 12) (v := 18) rfl (by decide +kernel) rfl), (ap_in (b := S.n) (S := S) (l := oq_105) (a := 12) (v := 8) rfl (by decide +kernel) (by decide)), (ap_asg (b := S.n) (S := S) (l := oq_105) (a := 12) (a2 := 38) (v := 18) (v2 := 4) rfl (by decide +kernel) (by decide +kernel) rfl), ?_⟩
  refine f_41_128 (E := (ox_M sp 1198)) (ox_M_mono hsp _) (S := (ap S.n oq_106 S)) (mr := 32) (sr := 189) (x0 := (S.n + 11)) (x1 := (S.n + 27)) (x2 := 3) ?_
  refine ⟨fun h => absurd h (by decide), fun _ => ⟨(ap_has (b := S.n) (S := S) (l := oq_106) (a := 11) (v := 7) rfl (by decide +kernel) rfl), (by decide), (by decide), (by decide), (ap_nz (S := S) hb 43), (by decide), 4, 26, (by decide), (by decide), ?_⟩⟩
  rw [show (ap S.n oq_106 S).R 34 (S.n + 11) = S.n + 12 from ap_R (b := S.n) (S := S) (F := 34) (a := 11) (v := 14) rfl hb oq_106 (by decide +kernel)]
  refine f_17 (d := 1197) hsp (S := (ap S.n oq_107 S)) (mr := 4) (sr := 26) (x0 := (S.n + 43)) (x1 := (S.n + 27)) ?_
  refine ⟨(ap_nz (S := S) hb 43), (by decide), (by decide), (by decide), (by decide), (by decide), (ap_has (b := S.n) (S := S) (l := oq_108) (a := 43) (v := 4) rfl (by decide +kernel) rfl), (by decide), (by decide), (by decide), (by decide), (ap_has (b := S.n) (S := S) (l := oq_110) (a := 43) (v := 4) rfl (by decide +kernel) rfl), (by decide), (by decide), (by decide), (by decide), (ap_has (b := S.n) (S := S) (l := oq_112) (a := 43) (v := 4) rfl (by decide +kernel) rfl), (by decide), (by decide), (by decide), (by decide), (ap_has (b := S.n) (S := S) (l := oq_114) (a := 43) (v := 4) rfl (by decide +kernel) rfl), (ap_has (b := S.n) (S := S) (l := oq_115) (a := 43) (v := 4) rfl (by decide +kernel) rfl), rfl, ?_⟩
  refine f_41_147 (E := (ox_M sp 1198)) (ox_M_mono hsp _) (S := (ap S.n oq_116 S)) (mr := 27) (sr := 154) (x0 := (S.n + 11)) (x1 := (S.n + 27)) (x2 := 3) (y0 := (S.n + 43)) (y1 := 3) (y2 := (S.n + 12)) ?_
  refine ⟨(ap_rd (b := S.n) (S := S) (l := oq_116) (a := 12) (v := 18) rfl (by decide +kernel) rfl), (ap_in (b := S.n) (S := S) (l := oq_116) (a := 12) (v := 8) rfl (by decide +kernel) (by decide)), (ap_asg (b := S.n) (S := S) (l := oq_116) (a := 12) (a2 := 43) (v := 18) (v2 := 4) rfl (by decide +kernel) (by decide +kernel) rfl), ?_⟩
  refine f_41_128 (E := (ox_M sp 1198)) (ox_M_mono hsp _) (S := (ap S.n oq_117 S)) (mr := 27) (sr := 154) (x0 := (S.n + 11)) (x1 := (S.n + 27)) (x2 := 4) ?_
  refine ⟨fun h => absurd h (by decide), fun _ => ⟨(ap_has (b := S.n) (S := S) (l := oq_117) (a := 11) (v := 7) rfl (by decide +kernel) rfl), (by decide), (by decide), (by decide), (ap_nz (S := S) hb 48), (by decide), 4, 26, (by decide), (by decide), ?_⟩⟩
  rw [show (ap S.n oq_117 S).R 34 (S.n + 11) = S.n + 12 from ap_R (b := S.n) (S := S) (F := 34) (a := 11) (v := 14) rfl hb oq_117 (by decide +kernel)]
  refine f_17 (d := 1197) hsp (S := (ap S.n oq_118 S)) (mr := 4) (sr := 26) (x0 := (S.n + 48)) (x1 := (S.n + 27)) ?_
  refine ⟨(ap_nz (S := S) hb 48), (by decide), (by decide), (by decide), (by decide), (by decide), (ap_has (b := S.n) (S := S) (l := oq_119) (a := 48) (v := 4) rfl (by decide +kernel) rfl), (by decide), (by decide), (by decide), (by decide), (ap_has (b := S.n) (S := S) (l := oq_121) (a := 48) (v := 4) rfl (by decide +kernel) rfl), (by decide), (by decide), (by decide), (by decide), (ap_has (b := S.n) (S := S) (l := oq_123) (a := 48) (v := 4) rfl (by decide +kernel) rfl), (by decide), (by decide), (by decide), (by decide), (ap_has (b := S.n) (S := S) (l := oq_125) (a := 48) (v := 4) rfl (by decide +kernel) rfl), (ap_has (b := S.n) (S := S) (l := oq_126) (a := 48) (v := 4) rfl (by decide +kernel) rfl), rfl, ?_⟩
  refine f_41_147 (E := (ox_M sp 1198)) (ox_M_mono hsp _) (S := (ap S.n oq_127 S)) (mr := 22) (sr := 119) (x0 := (S.n + 11)) (x1 := (S.n + 27)) (x2 := 4) (y0 := (S.n + 48)) (y1 := 4) (y2 := (S.n + 12)) ?_
  refine ⟨(ap_rd (b := S.n) (S := S) (l := oq_127) (a := 12) (v := 18) rfl (by decide +kernel) rfl), (ap_in (b := S.n) (S := S) (l := oq_127) (a := 12) (v := 8) rfl (by decide +kernel) (by decide)), (ap_asg (b := S.n) (S := S) (l := oq_127) (a := 12) (a2 := 48) (v := 18) (v2 := 4) rfl (by decide +kernel) (by decide +kernel) rfl), ?_⟩
  refine f_41_128 (E := (ox_M sp 1198)) (ox_M_mono hsp _) (S := (ap S.n oq_128 S)) (mr := 22) (sr := 119) (x0 := (S.n + 11)) (x1 := (S.n + 27)) (x2 := 5) ?_
  refine ⟨fun h => absurd h (by decide), fun _ => ⟨(ap_has (b := S.n) (S := S) (l := oq_128) (a := 11) (v := 7) rfl (by decide +kernel) rfl), (by decide), (by decide), (by decide), (ap_nz (S := S) hb 53), (by decide), 4, 26, (by decide), (by decide), ?_⟩⟩
  rw [show (ap S.n oq_128 S).R 34 (S.n + 11) = S.n + 12 from ap_R (b := S.n) (S := S) (F := 34) (a := 11) (v := 14) rfl hb oq_128 (by decide +kernel)]
  refine f_17 (d := 1197) hsp (S := (ap S.n oq_129 S)) (mr := 4) (sr := 26) (x0 := (S.n + 53)) (x1 := (S.n + 27)) ?_
  refine ⟨(ap_nz (S := S) hb 53), (by decide), (by decide), (by decide), (by decide), (by decide), (ap_has (b := S.n) (S := S) (l := oq_130) (a := 53) (v := 4) rfl (by decide +kernel) rfl), (by decide), (by decide), (by decide), (by decide), (ap_has (b := S.n) (S := S) (l := oq_132) (a := 53) (v := 4) rfl (by decide +kernel) rfl), (by decide), (by decide), (by decide), (by decide), (ap_has (b := S.n) (S := S) (l := oq_134) (a := 53) (v := 4) rfl (by decide +kernel) rfl), (by decide), (by decide), (by decide), (by decide), (ap_has (b := S.n) (S := S) (l := oq_136) (a := 53) (v := 4) rfl (by decide +kernel) rfl), (ap_has (b := S.n) (S := S) (l := oq_137) (a := 53) (v := 4) rfl (by decide +kernel) rfl), rfl, ?_⟩
  refine f_41_147 (E := (ox_M sp 1198)) (ox_M_mono hsp _) (S := (ap S.n oq_138 S)) (mr := 17) (sr := 84) (x0 := (S.n + 11)) (x1 := (S.n + 27)) (x2 := 5) (y0 := (S.n + 53)) (y1 := 5) (y2 := (S.n + 12)) ?_
  refine ⟨(ap_rd (b := S.n) (S := S) (l := oq_138) (a := 12) (v := 18) rfl (by decide +kernel) rfl), (ap_in (b := S.n) (S := S) (l := oq_138) (a := 12) (v := 8) rfl (by decide +kernel) (by decide)), (ap_asg (b := S.n) (S := S) (l := oq_138) (a := 12) (a2 := 53) (v := 18) (v2 := 4) rfl (by decide +kernel) (by decide +kernel) rfl), ?_⟩
  refine f_41_128 (E := (ox_M sp 1198)) (ox_M_mono hsp _) (S := (ap S.n oq_139 S)) (mr := 17) (sr := 84) (x0 := (S.n + 11)) (x1 := (S.n + 27)) (x2 := 6) ?_
  refine ⟨fun h => absurd h (by decide), fun _ => ⟨(ap_has (b := S.n) (S := S) (l := oq_139) (a := 11) (v := 7) rfl (by decide +kernel) rfl), (by decide), (by decide), (by decide), (ap_nz (S := S) hb 58), (by decide), 4, 26, (by decide), (by decide), ?_⟩⟩
  rw [show (ap S.n oq_139 S).R 34 (S.n + 11) = S.n + 12 from ap_R (b := S.n) (S := S) (F := 34) (a := 11) (v := 14) rfl hb oq_139 (by decide +kernel)]
  refine f_17 (d := 1197) hsp (S := (ap S.n oq_140 S)) (mr := 4) (sr := 26) (x0 := (S.n + 58)) (x1 := (S.n + 27)) ?_
  refine ⟨(ap_nz (S := S) hb 58), (by decide), (by decide), (by decide), (by decide), (by decide), (ap_has (b := S.n) (S := S) (l := oq_141) (a := 58) (v := 4) rfl (by decide +kernel) rfl), (by decide), (by decide), (by decide), (by decide), (ap_has (b := S.n) (S := S) (l := oq_143) (a := 58) (v := 4) rfl (by decide +kernel) rfl), (by decide), (by decide), (by decide), (by decide), (ap_has (b := S.n) (S := S) (l := oq_145) (a := 58) (v := 4) rfl (by decide +kernel) rfl), (by decide), (by decide), (by decide), (by decide), (ap_has (b := S.n) (S := S) (l := oq_147) (a := 58) (v := 4) rfl (by decide +kernel) rfl), (ap_has (b := S.n) (S := S) (l := oq_148) (a := 58) (v := 4) rfl (by decide +kernel) rfl), rfl, ?_⟩
  refine f_41_147 (E := (ox_M sp 1198)) (ox_M_mono hsp _) (S := (ap S.n oq_149 S)) (mr := 12) (sr := 49) (x0 := (S.n + 11)) (x1 := (S.n + 27)) (x2 := 6) (y0 := (S.n + 58)) (y1 := 6) (y2 := (S.n + 12)) ?_
  refine ⟨(ap_rd (b := S.n) (S := S) (l := oq_149) (a := 12) (v := 18) rfl (by decide +kernel) rfl), (ap_in (b := S.n) (S := S) (l := oq_149) (a := 12) (v := 8) rfl (by decide +kernel) (by decide)), (ap_asg (b := S.n) (S := S) (l := oq_149) (a := 12) (a2 := 58) (v := 18) (v2 := 4) rfl (by decide +kernel) (by decide +kernel) rfl), ?_⟩
  refine f_41_128 (E := (ox_M sp 1198)) (ox_M_mono hsp _) (S := (ap S.n oq_150 S)) (mr := 12) (sr := 49) (x0 := (S.n + 11)) (x1 := (S.n + 27)) (x2 := 7) ?_
  refine ⟨fun h => absurd h (by decide), fun _ => ⟨(ap_has (b := S.n) (S := S) (l := oq_150) (a := 11) (v := 7) rfl (by decide +kernel) rfl), (by decide), (by decide), (by decide), (ap_nz (S := S) hb 63), (by decide), 4, 26, (by decide), (by decide), ?_⟩⟩
  rw [show (ap S.n oq_150 S).R 34 (S.n + 11) = S.n + 12 from ap_R (b := S.n) (S := S) (F := 34) (a := 11) (v := 14) rfl hb oq_150 (by decide +kernel)]
  refine f_17 (d := 1197) hsp (S := (ap S.n oq_151 S)) (mr := 4) (sr := 26) (x0 := (S.n + 63)) (x1 := (S.n + 27)) ?_
  refine ⟨(ap_nz (S := S) hb 63), (by decide), (by decide), (by decide), (by decide), (by decide), (ap_has (b := S.n) (S := S) (l := oq_152) (a := 63) (v := 4) rfl (by decide +kernel) rfl), (by decide), (by decide), (by decide), (by decide), (ap_has (b := S.n) (S := S) (l := oq_154) (a := 63) (v := 4) rfl (by decide +kernel) rfl), (by decide), (by decide), (by decide), (by decide), (ap_has (b := S.n) (S := S) (l := oq_156) (a := 63) (v := 4) rfl (by decide +kernel) rfl), (by decide), (by decide), (by decide), (by decide), (ap_has (b := S.n) (S := S) (l := oq_158) (a := 63) (v := 4) rfl (by decide +kernel) rfl), (ap_has (b := S.n) (S := S) (l := oq_159) (a := 63) (v := 4) rfl (by decide +kernel) rfl), rfl, ?_⟩
  refine f_41_147 (E := (ox_M sp 1198)) (ox_M_mono hsp _) (S := (ap S.n oq_160 S)) (mr := 7) (sr := 14) (x0 := (S.n + 11)) (x1 := (S.n + 27)) (x2 := 7) (y0 := (S.n + 63)) (y1 := 7) (y2 := (S.n + 12)) ?_
  refine ⟨(ap_rd (b := S.n) (S := S) (l := oq_160) (a := 12) (v := 18) rfl (by decide +kernel) rfl), (ap_in (b := S.n) (S := S) (l := oq_160) (a := 12) (v := 8) rfl (by decide +kernel) (by decide)), (ap_asg (b := S.n) (S := S) (l := oq_160) (a := 12) (a2 := 63) (v := 18) (v2 := 4) rfl (by decide +kernel) (by decide +kernel) rfl), ?_⟩
  refine f_41_128 (E := (ox_M sp 1198)) (ox_M_mono hsp _) (S := (ap S.n oq_161 S)) (mr := 7) (sr := 14) (x0 := (S.n + 11)) (x1 := (S.n + 27)) (x2 := 8) ?_
  refine ⟨fun _ => ?_, fun h => absurd h (by decide)⟩
  refine f_41_156 (E := (ox_M sp 1198)) (ox_M_mono hsp _) (S := (ap S.n oq_161 S)) (mr := 7) (sr := 14) (x0 := (S.n + 11)) (x1 := (S.n + 27)) (x2 := 0) ?_
  refine ⟨fun h => absurd h (by decide), fun _ => ⟨(ap_has (b := S.n) (S := S) (l := oq_161) (a := 11) (v := 7) rfl (by decide +kernel) rfl), (by decide), (by decide), (by decide), (ap_nz (S := S) hb 68), (by decide), 0, 0, (by decide), (by decide), ?_⟩⟩
  rw [show (ap S.n oq_161 S).R 47 (S.n + 11) = S.n + 18 from ap_R (b := S.n) (S := S) (F := 47) (a := 11) (v := 20) rfl hb oq_161 (by decide +kernel)]
  refine f_89 (d := 1197) hsp (S := (ap S.n oq_162 S)) (mr := 0) (sr := 0) (x0 := (S.n + 68)) (x1 := 9) (x2 := 0) ?_
  refine ⟨(ap_nz (S := S) hb 68), (by decide), (ap_has (b := S.n) (S := S) (l := oq_162) (a := 68) (v := 11) rfl (by decide +kernel) rfl), (ap_has (b := S.n) (S := S) (l := oq_163) (a := 68) (v := 11) rfl (by decide +kernel) rfl), rfl, ?_⟩
  refine f_41_177 (E := (ox_M sp 1198)) (ox_M_mono hsp _) (S := (ap S.n oq_164 S)) (mr := 6) (sr := 12) (x0 := (S.n + 11)) (x1 := (S.n + 27)) (x2 := 0) (y0 := (S.n + 68)) (y1 := 0) (y2 := (S.n + 18)) ?_
  refine ⟨(ap_rd (b := S.n) (S := S) (l := oq_164) (a := 18) (v := 19) rfl (by decide +kernel) rfl), (ap_in (b := S.n) (S := S) (l := oq_164) (a := 18) (v := 7) rfl (by decide +kernel) (by decide)), (ap_asg (b := S.n) (S := S) (l := oq_164) (a := 18) (a2 := 68) (v := 19) (v2 := 11) rfl (by decide +kernel) (by decide +kernel) rfl), ?_⟩
  refine f_41_156 (E := (ox_M sp 1198)) (ox_M_mono hsp _) (S := (ap S.n oq_165 S)) (mr := 6) (sr := 12) (x0 := (S.n + 11)) (x1 := (S.n + 27)) (x2 := 1) ?_
  refine ⟨fun h => absurd h (by decide), fun _ => ⟨(ap_has (b := S.n) (S := S) (l := oq_165) (a := 11) (v := 7) rfl (by decide +kernel) rfl), (by decide), (by decide), (by decide), (ap_nz (S := S) hb 69), (by decide), 0, 0, (by decide), (by decide), ?_⟩⟩
  rw [show (ap S.n oq_165 S).R 47 (S.n + 11) = S.n + 18 from ap_R (b := S.n) (S := S) (F := 47) (a := 11) (v := 20) rfl hb oq_165 (by decide +kernel)]
  refine f_89 (d := 1197) hsp (S := (ap S.n oq_166 S)) (mr := 0) (sr := 0) (x0 := (S.n + 69)) (x1 := 9) (x2 := 1) ?_
  refine ⟨(ap_nz (S := S) hb 69), (by decide), (ap_has (b := S.n) (S := S) (l := oq_166) (a := 69) (v := 11) rfl (by decide +kernel) rfl), (ap_has (b := S.n) (S := S) (l := oq_167) (a := 69) (v := 11) rfl (by decide +kernel) rfl), rfl, ?_⟩
  refine f_41_177 (E := (ox_M sp 1198)) (ox_M_mono hsp _) (S := (ap S.n oq_168 S)) (mr := 5) (sr := 10) (x0 := (S.n + 11)) (x1 := (S.n + 27)) (x2 := 1) (y0 := (S.n + 69)) (y1 := 1) (y2 := (S.n + 18)) ?_
  refine ⟨(ap_rd (b := S.n) (S := S) (l := oq_168) (a := 18) (v := 19) rfl (by decide +kernel) rfl), (ap_in (b := S.n) (S := S) (l := oq_168) (a := 18) (v := 7) rfl (by decide +kernel) (by decide)), (ap_asg (b := S.n) (S := S) (l := oq_168) (a := 18) (a2 := 69) (v := 19) (v2 := 11) rfl (by decide +kernel) (by decide +kernel) rfl), ?_⟩
  refine f_41_156 (E := (ox_M sp 1198)) (ox_M_mono hsp _) (S := (ap S.n oq_169 S)) (mr := 5) (sr := 10) (x0 := (S.n + 11)) (x1 := (S.n + 27)) (x2 := 2) ?_
  refine ⟨fun h => absurd h (by decide), fun _ => ⟨(ap_has (b := S.n) (S := S) (l := oq_169) (a := 11) (v := 7) rfl (by decide +kernel) rfl), (by decide), (by decide), (by decide), (ap_nz (S := S) hb 70), (by decide), 0, 0, (by decide), (by decide), ?_⟩⟩
  rw [show (ap S.n oq_169 S).R 47 (S.n + 11) = S.n + 18 from ap_R (b := S.n) (S := S) (F := 47) (a := 11) (v := 20) rfl hb oq_169 (by decide +kernel)]
  refine f_89 (d := 1197) hsp (S := (ap S.n oq_170 S)) (mr := 0) (sr := 0) (x0 := (S.n + 70)) (x1 := 9) (x2 := 2) ?_
  refine ⟨(ap_nz (S := S) hb 70), (by decide), (ap_has (b := S.n) (S := S) (l := oq_170) (a := 70) (v := 11) rfl (by decide +kernel) rfl), (ap_has (b := S.n) (S := S) (l := oq_171) (a := 70) (v := 11) rfl (by decide +kernel) rfl), rfl, ?_⟩
  refine f_41_177 (E := (ox_M sp 1198)) (ox_M_mono hsp _) (S := (ap S.n oq_172 S)) (mr := 4) (sr := 8) (x0 := (S.n + 11)) (x1 := (S.n + 27)) (x2 := 2) (y0 := (S.n + 70)) (y1 := 2) (y2 := (S.n + 18)) ?_
  refine ⟨(ap_rd (b := S.n) (S := S) (l := oq_172) (a := 18) (v := 19) rfl (by decide +kernel) rfl), (ap_in (b := S.n) (S := S) (l := oq_172) (a := 18) (v := 7) rfl (by decide +kernel) (by decide)), (ap_asg (b := S.n) (S := S) (l := oq_172) (a := 18) (a2 := 70) (v := 19) (v2 := 11) rfl (by decide +kernel) (by decide +kernel) rfl), ?_⟩
  refine f_41_156 (E := (ox_M sp 1198)) (ox_M_mono hsp _) (S := (ap S.n oq_173 S)) (mr := 4) (sr := 8) (x0 := (S.n + 11)) (x1 := (S.n + 27)) (x2 := 3) ?_
  refine ⟨fun h => absurd h (by decide), fun _ => ⟨(ap_has (b := S.n) (S := S) (l := oq_173) (a := 11) (v := 7) rfl (by decide +kernel) rfl), (by decide), (by decide), (by decide), (ap_nz (S := S) hb 71), (by decide), 0, 0, (by decide), (by decide), ?_⟩⟩
  rw [show (ap S.n oq_173 S).R 47 (S.n + 11) = S.n + 18 from ap_R (b := S.n) (S := S) (F := 47) (a := 11) (v := 20) rfl hb oq_173 (by decide +kernel)]
  refine f_89 (d := 1197) hsp (S := (ap S.n oq_174 S)) (mr := 0) (sr := 0) (x0 := (S.n + 71)) (x1 := 9) (x2 := 3) ?_
  refine ⟨(ap_nz (S := S) hb 71), (by decide), (ap_has (b := S.n) (S := S) (l := oq_174) (a := 71) (v := 11) rfl (by decide +kernel) rfl), (ap_has (b := S.n) (S := S) (l := oq_175) (a := 71) (v := 11) rfl (by decide +kernel) rfl), rfl, ?_⟩
  refine f_41_177 (E := (ox_M sp 1198)) (ox_M_mono hsp _) (S := (ap S.n oq_176 S)) (mr := 3) (sr := 6) (x0 := (S.n + 11)) (x1 := (S.n + 27)) (x2 := 3) (y0 := (S.n + 71)) (y1 := 3) (y2 := (S.n + 18)) ?_
  refine ⟨(ap_rd (b := S.n) (S := S) (l := oq_176) (a := 18) (v := 19) rfl (by decide +kernel) rfl), (ap_in (b := S.n) (S := S) (l := oq_176) (a := 18) (v := 7) rfl (by decide +kernel) (by decide)), (ap_asg (b := S.n) (S := S) (l := oq_176) (a := 18) (a2 := 71) (v := 19) (v2 := 11) rfl (by decide +kernel) (by decide +kernel) rfl), ?_⟩
  refine f_41_156 (E := (ox_M sp 1198)) (ox_M_mono hsp _) (S := (ap S.n oq_177 S)) (mr := 3) (sr := 6) (x0 := (S.n + 11)) (x1 := (S.n + 27)) (x2 := 4) ?_
  refine ⟨fun h => absurd h (by decide), fun _ => ⟨(ap_has (b := S.n) (S := S) (l := oq_177) (a := 11) (v := 7) rfl (by decide +kernel) rfl), (by decide), (by decide), (by decide), (ap_nz (S := S) hb 72), (by decide), 0, 0, (by decide), (by decide), ?_⟩⟩
  rw [show (ap S.n oq_177 S).R 47 (S.n + 11) = S.n + 18 from ap_R (b := S.n) (S := S) (F := 47) (a := 11) (v := 20) rfl hb oq_177 (by decide +kernel)]
  refine f_89 (d := 1197) hsp (S := (ap S.n oq_178 S)) (mr := 0) (sr := 0) (x0 := (S.n + 72)) (x1 := 9) (x2 := 4) ?_
  refine ⟨(ap_nz (S := S) hb 72), (by decide), (ap_has (b := S.n) (S := S) (l := oq_178) (a := 72) (v := 11) rfl (by decide +kernel) rfl), (ap_has (b := S.n) (S := S) (l := oq_179) (a := 72) (v := 11) rfl (by decide +kernel) rfl), rfl, ?_⟩
  refine f_41_177 (E := (ox_M sp 1198)) (ox_M_mono hsp _) (S := (ap S.n oq_180 S)) (mr := 2) (sr := 4) (x0 := (S.n + 11)) (x1 := (S.n + 27)) (x2 := 4) (y0 := (S.n + 72)) (y1 := 4) (y2 := (S.n + 18)) ?_
  refine ⟨(ap_rd (b := S.n) (S := S) (l := oq_180) (a := 18) (v := 19) rfl (by decide +kernel) rfl), (ap_in (b := S.n) (S := S) (l := oq_180) (a := 18) (v := 7) rfl (by decide +kernel) (by decide)), (ap_asg (b := S.n) (S := S) (l := oq_180) (a := 18) (a2 := 72) (v := 19) (v2 := 11) rfl (by decide +kernel) (by decide +kernel) rfl), ?_⟩
  refine f_41_156 (E := (ox_M sp 1198)) (ox_M_mono hsp _) (S := (ap S.n oq_181 S)) (mr := 2) (sr := 4) (x0 := (S.n + 11)) (x1 := (S.n + 27)) (x2 := 5) ?_
  refine ⟨fun h => absurd h (by decide), fun _ => ⟨(ap_has (b := S.n) (S := S) (l := oq_181) (a := 11) (v := 7) rfl (by decide +kernel) rfl), (by decide), (by decide), (by decide), (ap_nz (S := S) hb 73), (by decide), 0, 0, (by decide), (by decide), ?_⟩⟩
  rw [show (ap S.n oq_181 S).R 47 (S.n + 11) = S.n + 18 from ap_R (b := S.n) (S := S) (F := 47) (a := 11) (v := 20) rfl hb oq_181 (by decide +kernel)]
  refine f_89 (d := 1197) hsp (S := (ap S.n oq_182 S)) (mr := 0) (sr := 0) (x0 := (S.n + 73)) (x1 := 9) (x2 := 5) ?_
  refine ⟨(ap_nz (S := S) hb 73), (by decide), (ap_has (b := S.n) (S := S) (l := oq_182) (a := 73) (v := 11) rfl (by decide +kernel) rfl), (ap_has (b := S.n) (S := S) (l := oq_183) (a := 73) (v := 11) rfl (by decide +kernel) rfl), rfl, ?_⟩
  refine f_41_177 (E := (ox_M sp 1198)) (ox_M_mono hsp _) (S := (ap S.n oq_184 S)) (mr := 1) (sr := 2) (x0 := (S.n + 11)) (x1 := (S.n + 27)) (x2 := 5) (y0 := (S.n + 73)) (y1 := 5) (y2 := (S.n + 18)) ?_
  refine ⟨(ap_rd (b := S.n) (S := S) (l := oq_184) (a := 18) (v := 19) rfl (by decide +kernel) rfl), (ap_in (b := S.n) (S := S) (l := oq_184) (a := 18) (v := 7) rfl (by decide +kernel) (by decide)), (ap_asg (b := S.n) (S := S) (l := oq_184) (a := 18) (a2 := 73) (v := 19) (v2 := 11) rfl (by decide +kernel) (by decide +kernel) rfl), ?_⟩
  refine f_41_156 (E := (ox_M sp 1198)) (ox_M_mono hsp _) (S := (ap S.n oq_185 S)) (mr := 1) (sr := 2) (x0 := (S.n + 11)) (x1 := (S.n + 27)) (x2 := 6) ?_
  refine ⟨fun h => absurd h (by decide), fun _ => ⟨(ap_has (b := S.n) (S := S) (l := oq_185) (a := 11) (v := 7) rfl (by decide +kernel) rfl), (by decide), (by decide), (by decide), (ap_nz (S := S) hb 74), (by decide), 0, 0, (by decide), (by decide), ?_⟩⟩
  rw [show (ap S.n oq_185 S).R 47 (S.n + 11) = S.n + 18 from ap_R (b := S.n) (S := S) (F := 47) (a := 11) (v := 20) rfl hb oq_185 (by decide +kernel)]
  refine f_89 (d := 1197) hsp (S := (ap S.n oq_186 S)) (mr := 0) (sr := 0) (x0 := (S.n + 74)) (x1 := 9) (x2 := 6) ?_
  refine ⟨(ap_nz (S := S) hb 74), (by decide), (ap_has (b := S.n) (S := S) (l := oq_186) (a := 74) (v := 11) rfl (by decide +kernel) rfl), (ap_has (b := S.n) (S := S) (l := oq_187) (a := 74) (v := 11) rfl (by decide +kernel) rfl), rfl, ?_⟩
  refine f_41_177 (E := (ox_M sp 1198)) (ox_M_mono hsp _) (S := (ap S.n oq_188 S)) (mr := 0) (sr := 0) (x0 := (S.n + 11)) (x1 := (S.n + 27)) (x2 := 6) (y0 := (S.n + 74)) (y1 := 6) (y2 := (S.n + 18)) ?_
  refine ⟨(ap_rd (b := S.n) (S := S) (l := oq_188) (a := 18) (v := 19) rfl (by decide +kernel) rfl), (ap_in (b := S.n) (S := S) (l := oq_188) (a := 18) (v := 7) rfl (by decide +kernel) (by decide)), (ap_asg (b := S.n) (S := S) (l := oq_188) (a := 18) (a2 := 74) (v := 19) (v2 := 11) rfl (by decide +kernel) (by decide +kernel) rfl), ?_⟩
  refine f_41_156 (E := (ox_M sp 1198)) (ox_M_mono hsp _) (S := (ap S.n oq_189 S)) (mr := 0) (sr := 0) (x0 := (S.n + 11)) (x1 := (S.n + 27)) (x2 := 7) ?_
  refine ⟨fun _ => ⟨rfl, ?_⟩, fun h => absurd h (by decide)⟩
  refine f_94_48 (E := (ox_M sp 1199)) (ox_M_mono hsp _) (S := (ap S.n oq_189 S)) (mr := 1) (sr := 300) (x0 := (S.n + 0)) (y0 := (S.n + 11)) (y1 := (S.n + 0)) ?_
  refine ⟨(ap_has (b := S.n) (S := S) (l := oq_189) (a := 0) (v := 13) rfl (by decide +kernel) rfl), (by decide), (by decide), (by decide), (by decide), (ap_has (b := S.n) (S := S) (l := oq_191) (a := 0) (v := 13) rfl (by decide +kernel) rfl), rfl, ?_⟩
  refine f_238_7 (E := (lw_E (ox_M sp 1200))) (lw_E_mono (ox_M_mono hsp _)) (S := (ap S.n oq_192 S)) (mr := 599924) (sr := 7287541) (x0 := x0) (y0 := (S.n + 0)) ?_
  refine ⟨(by decide), (by decide), (by decide), (ap_nz (S := S) hb 76), (by decide), 41, 2215224, (by decide), (by decide), ?_⟩
  refine Or.inr (Or.inr ⟨by decide, by decide, ?_⟩)
  refine f_126 (d := 1199) hsp (S := (ap S.n oq_193 S)) (mr := 41) (sr := 2215224) (x0 := (S.n + 76)) ?_
  refine ⟨(ap_nz (S := S) hb 76), (by decide), (ap_has (b := S.n) (S := S) (l := oq_193) (a := 76) (v := 14) rfl (by decide +kernel) rfl), (by decide), (by decide), (by decide), (by decide), (ap_has (b := S.n) (S := S) (l := oq_195) (a := 76) (v := 14) rfl (by decide +kernel) rfl), (by decide), (by decide), (by decide), (by decide), (ap_has (b := S.n) (S := S) (l := oq_197) (a := 76) (v := 14) rfl (by decide +kernel) rfl), (by decide), (by decide), (by decide), (by decide), (ap_has (b := S.n) (S := S) (l := oq_199) (a := 76) (v := 14) rfl (by decide +kernel) rfl), ?_⟩
  refine f_126_34 (E := (ox_M sp 1199)) (ox_M_mono hsp _) (S := (ap S.n oq_200 S)) (mr := 38) (sr := 14424) (x0 := (S.n + 76)) ?_
  refine ⟨(ap_has (b := S.n) (S := S) (l := oq_200) (a := 76) (v := 14) rfl (by decide +kernel) rfl), (by decide), (by decide), (by decide), (by decide), (ap_has (b := S.n) (S := S) (l := oq_202) (a := 76) (v := 14) rfl (by decide +kernel) rfl), (by decide), (by decide), (by decide), (by decide), (ap_has (b := S.n) (S := S) (l := oq_204) (a := 76) (v := 14) rfl (by decide +kernel) rfl), (by decide), (by decide), (by decide), (by decide), (ap_has (b := S.n) (S := S) (l := oq_206) (a := 76) (v := 14) rfl (by decide +kernel) rfl), ?_⟩
  refine f_126_67 (E := (ox_M sp 1199)) (ox_M_mono hsp _) (S := (ap S.n oq_207 S)) (mr := 35) (sr := 13524) (x0 := (S.n + 76)) ?_
  refine ⟨(by decide), (by decide), (by decide), (by decide), (ap_has (b := S.n) (S := S) (l := oq_208) (a := 76) (v := 14) rfl (by decide +kernel) rfl), (by decide), (by decide), (by decide), (by decide), (ap_has (b := S.n) (S := S) (l := oq_210) (a := 76) (v := 14) rfl (by decide +kernel) rfl), (by decide), (by decide), (by decide), (by decide), (ap_has (b := S.n) (S := S) (l := oq_212) (a := 76) (v := 14) rfl (by decide +kernel) rfl), (by decide), (by decide), (by decide), (by decide), (ap_has (b := S.n) (S := S) (l := oq_214) (a := 76) (v := 14) rfl (by decide +kernel) rfl), ?_⟩
  refine f_126_103 (E := (ox_M sp 1199)) (ox_M_mono hsp _) (S := (ap S.n oq_215 S)) (mr := 31) (sr := 12324) (x0 := (S.n + 76)) ?_
  refine ⟨(by decide), (by decide), (by decide), (by decide), (ap_has (b := S.n) (S := S) (l := oq_216) (a := 76) (v := 14) rfl (by decide +kernel) rfl), (by decide), (by decide), (by decide), (by decide), (ap_has (b := S.n) (S := S) (l := oq_218) (a := 76) (v := 14) rfl (by decide +kernel) rfl), (by decide), (by decide), (by decide), (by decide), (ap_has (b := S.n) (S := S) (l := oq_220) (a := 76) (v := 14) rfl (by decide +kernel) rfl), (by decide), (by decide), (by decide), (by decide), (ap_has (b := S.n) (S := S) (l := oq_222) (a := 76) (v := 14) rfl (by decide +kernel) rfl), ?_⟩
  refine f_126_139 (E := (ox_M sp 1199)) (ox_M_mono hsp _) (S := (ap S.n oq_223 S)) (mr := 27) (sr := 7524) (x0 := (S.n + 76)) ?_
  refine ⟨(by decide), (by decide), (by decide), (by decide), (ap_has (b := S.n) (S := S) (l := oq_224) (a := 76) (v := 14) rfl (by decide +kernel) rfl), (ap_has (b := S.n) (S := S) (l := oq_225) (a := 76) (v := 14) rfl (by decide +kernel) rfl), (ap_has (b := S.n) (S := S) (l := oq_226) (a := 76) (v := 14) rfl (by decide +kernel) rfl), (by decide), (by decide), (by decide), (by decide), (ap_has (b := S.n) (S := S) (l := oq_228) (a := 76) (v := 14) rfl (by decide +kernel) rfl), ?_⟩
  refine f_126_166 (E := (ox_M sp 1199)) (ox_M_mono hsp _) (S := (ap S.n oq_229 S)) (mr := 25) (sr := 5416) (x0 := (S.n + 76)) ?_
  refine ⟨(by decide), (by decide), (by decide), (by decide), (ap_has (b := S.n) (S := S) (l := oq_230) (a := 76) (v := 14) rfl (by decide +kernel) rfl), (by decide), (by decide), (by decide), (by decide), (ap_has (b := S.n) (S := S) (l := oq_232) (a := 76) (v := 14) rfl (by decide +kernel) rfl), (by decide), (by decide), (by decide), (by decide), (ap_has (b := S.n) (S := S) (l := oq_234) (a := 76) (v := 14) rfl (by decide +kernel) rfl), (by decide), (by decide), (by decide), (by decide), (ap_has (b := S.n) (S := S) (l := oq_236) (a := 76) (v := 14) rfl (by decide +kernel) rfl), ?_⟩
  refine f_126_198 (E := (ox_M sp 1199)) (ox_M_mono hsp _) (S := (ap S.n oq_237 S)) (mr := 21) (sr := 5312) (x0 := (S.n + 76)) ?_
  refine ⟨(by decide), (by decide), (by decide), (by decide), (ap_has (b := S.n) (S := S) (l := oq_238) (a := 76) (v := 14) rfl (by decide +kernel) rfl), (by decide), (by decide), (by decide), (by decide), (ap_has (b := S.n) (S := S) (l := oq_240) (a := 76) (v := 14) rfl (by decide +kernel) rfl), (by decide), (by decide), (by decide), (by decide), (ap_has (b := S.n) (S := S) (l := oq_242) (a := 76) (v := 14) rfl (by decide +kernel) rfl), (by decide), (by decide), (by decide), (by decide), (ap_has (b := S.n) (S := S) (l := oq_244) (a := 76) (v := 14) rfl (by decide +kernel) rfl), ?_⟩
  refine f_126_230 (E := (ox_M sp 1199)) (ox_M_mono hsp _) (S := (ap S.n oq_245 S)) (mr := 17) (sr := 5168) (x0 := (S.n + 76)) ?_
  refine ⟨(by decide), (by decide), (by decide), (by decide), (ap_has (b := S.n) (S := S) (l := oq_246) (a := 76) (v := 14) rfl (by decide +kernel) rfl), (by decide), (by decide), (by decide), (by decide), (ap_has (b := S.n) (S := S) (l := oq_248) (a := 76) (v := 14) rfl (by decide +kernel) rfl), (by decide), (by decide), (by decide), (by decide), (ap_has (b := S.n) (S := S) (l := oq_250) (a := 76) (v := 14) rfl (by decide +kernel) rfl), (by decide), (by decide), (by decide), (by decide), (ap_has (b := S.n) (S := S) (l := oq_252) (a := 76) (v := 14) rfl (by decide +kernel) rfl), ?_⟩
  refine f_126_262 (E := (ox_M sp 1199)) (ox_M_mono hsp _) (S := (ap S.n oq_253 S)) (mr := 13) (sr := 5032) (x0 := (S.n + 76)) ?_
  refine ⟨(by decide), (by decide), (by decide), (by decide), (ap_has (b := S.n) (S := S) (l := oq_254) (a := 76) (v := 14) rfl (by decide +kernel) rfl), (by decide), (by decide), (by decide), (by decide), (ap_has (b := S.n) (S := S) (l := oq_256) (a := 76) (v := 14) rfl (by decide +kernel) rfl), (by decide), (by decide), (by decide), (by decide), (ap_has (b := S.n) (S := S) (l := oq_258) (a := 76) (v := 14) rfl (by decide +kernel) rfl), (by decide), (by decide), (by decide), (by decide), (ap_has (b := S.n) (S := S) (l := oq_260) (a := 76) (v := 14) rfl (by decide +kernel) rfl), ?_⟩
  refine f_126_294 (E := (ox_M sp 1199)) (ox_M_mono hsp _) (S := (ap S.n oq_261 S)) (mr := 9) (sr := 4968) (x0 := (S.n + 76)) ?_
  refine ⟨(by decide), (by decide), (by decide), (by decide), (ap_has (b := S.n) (S := S) (l := oq_262) (a := 76) (v := 14) rfl (by decide +kernel) rfl), (by decide), (by decide), (by decide), (by decide), (ap_has (b := S.n) (S := S) (l := oq_264) (a := 76) (v := 14) rfl (by decide +kernel) rfl), (by decide), (by decide), (by decide), (by decide), (ap_has (b := S.n) (S := S) (l := oq_266) (a := 76) (v := 14) rfl (by decide +kernel) rfl), (by decide), (by decide), (by decide), (by decide), (ap_has (b := S.n) (S := S) (l := oq_268) (a := 76) (v := 14) rfl (by decide +kernel) rfl), ?_⟩
  refine f_126_329 (E := (ox_M sp 1199)) (ox_M_mono hsp _) (S := (ap S.n oq_269 S)) (mr := 5) (sr := 3600) (x0 := (S.n + 76)) ?_
  refine ⟨(by decide), (by decide), (by decide), (by decide), (ap_has (b := S.n) (S := S) (l := oq_270) (a := 76) (v := 14) rfl (by decide +kernel) rfl), (by decide), (by decide), (by decide), (by decide), (ap_has (b := S.n) (S := S) (l := oq_272) (a := 76) (v := 14) rfl (by decide +kernel) rfl), (by decide), (by decide), (by decide), (by decide), (ap_has (b := S.n) (S := S) (l := oq_274) (a := 76) (v := 14) rfl (by decide +kernel) rfl), (by decide), (by decide), (by decide), (by decide), (ap_has (b := S.n) (S := S) (l := oq_276) (a := 76) (v := 14) rfl (by decide +kernel) rfl), ?_⟩
  refine f_126_365 (E := (ox_M sp 1199)) (ox_M_mono hsp _) (S := (ap S.n oq_277 S)) (mr := 1) (sr := 2000) (x0 := (S.n + 76)) ?_
  refine ⟨(by decide), (by decide), (by decide), (by decide), (ap_has (b := S.n) (S := S) (l := oq_278) (a := 76) (v := 14) rfl (by decide +kernel) rfl), rfl, ?_⟩
  refine f_238_15 (E := (lw_E (ox_M sp 1200))) (lw_E_mono (ox_M_mono hsp _)) (S := (ap S.n oq_279 S)) (mr := 599882) (sr := 5072244) (x0 := x0) (x1 := (S.n + 0)) (y0 := (S.n + 76)) ?_
  refine ⟨(by decide), (by decide), (by decide), (by decide), ?_⟩
  exact h
