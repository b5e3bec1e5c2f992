theorem dR_init_0 : decode bR_init 0 = .ok (.aload_n 0, 1) := by decide +kernel
theorem dR_init_1 : decode bR_init 1 = .ok (.invokespecial 1, 3) := by decide +kernel
theorem dR_init_4 : decode bR_init 4 = .ok (.aload_n 0, 1) := by decide +kernel
theorem dR_init_5 : decode bR_init 5 = .ok (.sipush 200, 3) := by decide +kernel
theorem dR_init_8 : decode bR_init 8 = .ok (.newarray .int, 2) := by decide +kernel
theorem dR_init_10 : decode bR_init 10 = .ok (.putfield 7, 3) := by decide +kernel
theorem dR_init_13 : decode bR_init 13 = .ok (.aload_n 0, 1) := by decide +kernel
theorem dR_init_14 : decode bR_init 14 = .ok (.bipush 48, 2) := by decide +kernel
theorem dR_init_16 : decode bR_init 16 = .ok (.newarray .int, 2) := by decide +kernel
theorem dR_init_18 : decode bR_init 18 = .ok (.putfield 13, 3) := by decide +kernel
theorem dR_init_21 : decode bR_init 21 = .ok (.aload_n 0, 1) := by decide +kernel
theorem dR_init_22 : decode bR_init 22 = .ok (.bipush 28, 2) := by decide +kernel
theorem dR_init_24 : decode bR_init 24 = .ok (.newarray .int, 2) := by decide +kernel
theorem dR_init_26 : decode bR_init 26 = .ok (.dup, 1) := by decide +kernel
theorem dR_init_27 : decode bR_init 27 = .ok (.iconst 0, 1) := by decide +kernel
theorem dR_init_28 : decode bR_init 28 = .ok (.iconst 1, 1) := by decide +kernel
theorem dR_init_29 : decode bR_init 29 = .ok (.iastore, 1) := by decide +kernel
theorem dR_init_30 : decode bR_init 30 = .ok (.dup, 1) := by decide +kernel
theorem dR_init_31 : decode bR_init 31 = .ok (.iconst 1, 1) := by decide +kernel
theorem dR_init_32 : decode bR_init 32 = .ok (.iconst 1, 1) := by decide +kernel
theorem dR_init_33 : decode bR_init 33 = .ok (.iastore, 1) := by decide +kernel
theorem dR_init_34 : decode bR_init 34 = .ok (.dup, 1) := by decide +kernel
theorem dR_init_35 : decode bR_init 35 = .ok (.iconst 2, 1) := by decide +kernel
theorem dR_init_36 : decode bR_init 36 = .ok (.iconst 1, 1) := by decide +kernel
theorem dR_init_37 : decode bR_init 37 = .ok (.iastore, 1) := by decide +kernel
theorem dR_init_38 : decode bR_init 38 = .ok (.dup, 1) := by decide +kernel
theorem dR_init_39 : decode bR_init 39 = .ok (.iconst 3, 1) := by decide +kernel
theorem dR_init_40 : decode bR_init 40 = .ok (.iconst 1, 1) := by decide +kernel
theorem dR_init_41 : decode bR_init 41 = .ok (.iastore, 1) := by decide +kernel
theorem dR_init_42 : decode bR_init 42 = .ok (.dup, 1) := by decide +kernel
theorem dR_init_43 : decode bR_init 43 = .ok (.iconst 4, 1) := by decide +kernel
theorem dR_init_44 : decode bR_init 44 = .ok (.iconst 1, 1) := by decide +kernel
theorem dR_init_45 : decode bR_init 45 = .ok (.iastore, 1) := by decide +kernel
theorem dR_init_46 : decode bR_init 46 = .ok (.dup, 1) := by decide +kernel
theorem dR_init_47 : decode bR_init 47 = .ok (.iconst 5, 1) := by decide +kernel
theorem dR_init_48 : decode bR_init 48 = .ok (.iconst 1, 1) := by decide +kernel
theorem dR_init_49 : decode bR_init 49 = .ok (.iastore, 1) := by decide +kernel
theorem dR_init_50 : decode bR_init 50 = .ok (.dup, 1) := by decide +kernel
theorem dR_init_51 : decode bR_init 51 = .ok (.bipush 6, 2) := by decide +kernel
theorem dR_init_53 : decode bR_init 53 = .ok (.iconst 1, 1) := by decide +kernel
theorem dR_init_54 : decode bR_init 54 = .ok (.iastore, 1) := by decide +kernel
theorem dR_init_55 : decode bR_init 55 = .ok (.dup, 1) := by decide +kernel
theorem dR_init_56 : decode bR_init 56 = .ok (.bipush 7, 2) := by decide +kernel
theorem dR_init_58 : decode bR_init 58 = .ok (.iconst 1, 1) := by decide +kernel
theorem dR_init_59 : decode bR_init 59 = .ok (.iastore, 1) := by decide +kernel
theorem dR_init_60 : decode bR_init 60 = .ok (.dup, 1) := by decide +kernel
theorem dR_init_61 : decode bR_init 61 = .ok (.bipush 8, 2) := by decide +kernel
theorem dR_init_63 : decode bR_init 63 = .ok (.iconst 1, 1) := by decide +kernel
theorem dR_init_64 : decode bR_init 64 = .ok (.iastore, 1) := by decide +kernel
theorem dR_init_65 : decode bR_init 65 = .ok (.dup, 1) := by decide +kernel
theorem dR_init_66 : decode bR_init 66 = .ok (.bipush 9, 2) := by decide +kernel
theorem dR_init_68 : decode bR_init 68 = .ok (.iconst 1, 1) := by decide +kernel
theorem dR_init_69 : decode bR_init 69 = .ok (.iastore, 1) := by decide +kernel
theorem dR_init_70 : decode bR_init 70 = .ok (.dup, 1) := by decide +kernel
theorem dR_init_71 : decode bR_init 71 = .ok (.bipush 10, 2) := by decide +kernel
theorem dR_init_73 : decode bR_init 73 = .ok (.iconst 1, 1) := by decide +kernel
theorem dR_init_74 : decode bR_init 74 = .ok (.iastore, 1) := by decide +kernel
theorem dR_init_75 : decode bR_init 75 = .ok (.dup, 1) := by decide +kernel
theorem dR_init_76 : decode bR_init 76 = .ok (.bipush 11, 2) := by decide +kernel
theorem dR_init_78 : decode bR_init 78 = .ok (.iconst 1, 1) := by decide +kernel
theorem dR_init_79 : decode bR_init 79 = .ok (.iastore, 1) := by decide +kernel
theorem dR_init_80 : decode bR_init 80 = .ok (.dup, 1) := by decide +kernel
theorem dR_init_81 : decode bR_init 81 = .ok (.bipush 12, 2) := by decide +kernel
theorem dR_init_83 : decode bR_init 83 = .ok (.iconst 1, 1) := by decide +kernel
theorem dR_init_84 : decode bR_init 84 = .ok (.iastore, 1) := by decide +kernel
theorem dR_init_85 : decode bR_init 85 = .ok (.dup, 1) := by decide +kernel
theorem dR_init_86 : decode bR_init 86 = .ok (.bipush 13, 2) := by decide +kernel
theorem dR_init_88 : decode bR_init 88 = .ok (.iconst 1, 1) := by decide +kernel
theorem dR_init_89 : decode bR_init 89 = .ok (.iastore, 1) := by decide +kernel
theorem dR_init_90 : decode bR_init 90 = .ok (.dup, 1) := by decide +kernel
theorem dR_init_91 : decode bR_init 91 = .ok (.bipush 14, 2) := by decide +kernel
theorem dR_init_93 : decode bR_init 93 = .ok (.iconst 1, 1) := by decide +kernel
theorem dR_init_94 : decode bR_init 94 = .ok (.iastore, 1) := by decide +kernel
theorem dR_init_95 : decode bR_init 95 = .ok (.dup, 1) := by decide +kernel
theorem dR_init_96 : decode bR_init 96 = .ok (.bipush 15, 2) := by decide +kernel
theorem dR_init_98 : decode bR_init 98 = .ok (.iconst 1, 1) := by decide +kernel
theorem dR_init_99 : decode bR_init 99 = .ok (.iastore, 1) := by decide +kernel
theorem dR_init_100 : decode bR_init 100 = .ok (.dup, 1) := by decide +kernel
theorem dR_init_101 : decode bR_init 101 = .ok (.bipush 16, 2) := by decide +kernel
theorem dR_init_103 : decode bR_init 103 = .ok (.iconst 1, 1) := by decide +kernel
theorem dR_init_104 : decode bR_init 104 = .ok (.iastore, 1) := by decide +kernel
theorem dR_init_105 : decode bR_init 105 = .ok (.dup, 1) := by decide +kernel
theorem dR_init_106 : decode bR_init 106 = .ok (.bipush 17, 2) := by decide +kernel
theorem dR_init_108 : decode bR_init 108 = .ok (.iconst 1, 1) := by decide +kernel
theorem dR_init_109 : decode bR_init 109 = .ok (.iastore, 1) := by decide +kernel
theorem dR_init_110 : decode bR_init 110 = .ok (.dup, 1) := by decide +kernel
theorem dR_init_111 : decode bR_init 111 = .ok (.bipush 18, 2) := by decide +kernel
theorem dR_init_113 : decode bR_init 113 = .ok (.iconst 1, 1) := by decide +kernel
theorem dR_init_114 : decode bR_init 114 = .ok (.iastore, 1) := by decide +kernel
theorem dR_init_115 : decode bR_init 115 = .ok (.dup, 1) := by decide +kernel
theorem dR_init_116 : decode bR_init 116 = .ok (.bipush 19, 2) := by decide +kernel
theorem dR_init_118 : decode bR_init 118 = .ok (.iconst 1, 1) := by decide +kernel
theorem dR_init_119 : decode bR_init 119 = .ok (.iastore, 1) := by decide +kernel
theorem dR_init_120 : decode bR_init 120 = .ok (.dup, 1) := by decide +kernel
theorem dR_init_121 : decode bR_init 121 = .ok (.bipush 20, 2) := by decide +kernel
theorem dR_init_123 : decode bR_init 123 = .ok (.iconst 1, 1) := by decide +kernel
theorem dR_init_124 : decode bR_init 124 = .ok (.iastore, 1) := by decide +kernel
theorem dR_init_125 : decode bR_init 125 = .ok (.dup, 1) := by decide +kernel
theorem dR_init_126 : decode bR_init 126 = .ok (.bipush 21, 2) := by decide +kernel
theorem dR_init_128 : decode bR_init 128 = .ok (.iconst 1, 1) := by decide +kernel
theorem dR_init_129 : decode bR_init 129 = .ok (.iastore, 1) := by decide +kernel
theorem dR_init_130 : decode bR_init 130 = .ok (.dup, 1) := by decide +kernel
theorem dR_init_131 : decode bR_init 131 = .ok (.bipush 22, 2) := by decide +kernel
theorem dR_init_133 : decode bR_init 133 = .ok (.iconst 1, 1) := by decide +kernel
theorem dR_init_134 : decode bR_init 134 = .ok (.iastore, 1) := by decide +kernel
theorem dR_init_135 : decode bR_init 135 = .ok (.dup, 1) := by decide +kernel
theorem dR_init_136 : decode bR_init 136 = .ok (.bipush 23, 2) := by decide +kernel
theorem dR_init_138 : decode bR_init 138 = .ok (.iconst 1, 1) := by decide +kernel
theorem dR_init_139 : decode bR_init 139 = .ok (.iastore, 1) := by decide +kernel
theorem dR_init_140 : decode bR_init 140 = .ok (.dup, 1) := by decide +kernel
theorem dR_init_141 : decode bR_init 141 = .ok (.bipush 24, 2) := by decide +kernel
theorem dR_init_143 : decode bR_init 143 = .ok (.iconst 1, 1) := by decide +kernel
theorem dR_init_144 : decode bR_init 144 = .ok (.iastore, 1) := by decide +kernel
theorem dR_init_145 : decode bR_init 145 = .ok (.dup, 1) := by decide +kernel
theorem dR_init_146 : decode bR_init 146 = .ok (.bipush 25, 2) := by decide +kernel
theorem dR_init_148 : decode bR_init 148 = .ok (.iconst 1, 1) := by decide +kernel
theorem dR_init_149 : decode bR_init 149 = .ok (.iastore, 1) := by decide +kernel
theorem dR_init_150 : decode bR_init 150 = .ok (.dup, 1) := by decide +kernel
theorem dR_init_151 : decode bR_init 151 = .ok (.bipush 26, 2) := by decide +kernel
theorem dR_init_153 : decode bR_init 153 = .ok (.iconst 1, 1) := by decide +kernel
theorem dR_init_154 : decode bR_init 154 = .ok (.iastore, 1) := by decide +kernel
theorem dR_init_155 : decode bR_init 155 = .ok (.dup, 1) := by decide +kernel
theorem dR_init_156 : decode bR_init 156 = .ok (.bipush 27, 2) := by decide +kernel
theorem dR_init_158 : decode bR_init 158 = .ok (.iconst 1, 1) := by decide +kernel
theorem dR_init_159 : decode bR_init 159 = .ok (.iastore, 1) := by decide +kernel
theorem dR_init_160 : decode bR_init 160 = .ok (.putfield 16, 3) := by decide +kernel
theorem dR_init_163 : decode bR_init 163 = .ok (.aload_n 0, 1) := by decide +kernel
theorem dR_init_164 : decode bR_init 164 = .ok (.bipush 35, 2) := by decide +kernel
theorem dR_init_166 : decode bR_init 166 = .ok (.newarray .int, 2) := by decide +kernel
theorem dR_init_168 : decode bR_init 168 = .ok (.dup, 1) := by decide +kernel
theorem dR_init_169 : decode bR_init 169 = .ok (.iconst 0, 1) := by decide +kernel
theorem dR_init_170 : decode bR_init 170 = .ok (.bipush 115, 2) := by decide +kernel
theorem dR_init_172 : decode bR_init 172 = .ok (.iastore, 1) := by decide +kernel
theorem dR_init_173 : decode bR_init 173 = .ok (.dup, 1) := by decide +kernel
theorem dR_init_174 : decode bR_init 174 = .ok (.iconst 1, 1) := by decide +kernel
theorem dR_init_175 : decode bR_init 175 = .ok (.bipush 105, 2) := by decide +kernel
theorem dR_init_177 : decode bR_init 177 = .ok (.iastore, 1) := by decide +kernel
theorem dR_init_178 : decode bR_init 178 = .ok (.dup, 1) := by decide +kernel
theorem dR_init_179 : decode bR_init 179 = .ok (.iconst 2, 1) := by decide +kernel
theorem dR_init_180 : decode bR_init 180 = .ok (.bipush 122, 2) := by decide +kernel
theorem dR_init_182 : decode bR_init 182 = .ok (.iastore, 1) := by decide +kernel
theorem dR_init_183 : decode bR_init 183 = .ok (.dup, 1) := by decide +kernel
theorem dR_init_184 : decode bR_init 184 = .ok (.iconst 3, 1) := by decide +kernel
theorem dR_init_185 : decode bR_init 185 = .ok (.bipush 101, 2) := by decide +kernel
theorem dR_init_187 : decode bR_init 187 = .ok (.iastore, 1) := by decide +kernel
theorem dR_init_188 : decode bR_init 188 = .ok (.dup, 1) := by decide +kernel
theorem dR_init_189 : decode bR_init 189 = .ok (.iconst 4, 1) := by decide +kernel
theorem dR_init_190 : decode bR_init 190 = .ok (.iconst 0, 1) := by decide +kernel
theorem dR_init_191 : decode bR_init 191 = .ok (.iastore, 1) := by decide +kernel
theorem dR_init_192 : decode bR_init 192 = .ok (.dup, 1) := by decide +kernel
theorem dR_init_193 : decode bR_init 193 = .ok (.iconst 5, 1) := by decide +kernel
theorem dR_init_194 : decode bR_init 194 = .ok (.bipush 102, 2) := by decide +kernel
theorem dR_init_196 : decode bR_init 196 = .ok (.iastore, 1) := by decide +kernel
theorem dR_init_197 : decode bR_init 197 = .ok (.dup, 1) := by decide +kernel
theorem dR_init_198 : decode bR_init 198 = .ok (.bipush 6, 2) := by decide +kernel
theorem dR_init_200 : decode bR_init 200 = .ok (.bipush 111, 2) := by decide +kernel
theorem dR_init_202 : decode bR_init 202 = .ok (.iastore, 1) := by decide +kernel
theorem dR_init_203 : decode bR_init 203 = .ok (.dup, 1) := by decide +kernel
theorem dR_init_204 : decode bR_init 204 = .ok (.bipush 7, 2) := by decide +kernel
theorem dR_init_206 : decode bR_init 206 = .ok (.bipush 114, 2) := by decide +kernel
theorem dR_init_208 : decode bR_init 208 = .ok (.iastore, 1) := by decide +kernel
theorem dR_init_209 : decode bR_init 209 = .ok (.dup, 1) := by decide +kernel
theorem dR_init_210 : decode bR_init 210 = .ok (.bipush 8, 2) := by decide +kernel
theorem dR_init_212 : decode bR_init 212 = .ok (.bipush 99, 2) := by decide +kernel
theorem dR_init_214 : decode bR_init 214 = .ok (.iastore, 1) := by decide +kernel
theorem dR_init_215 : decode bR_init 215 = .ok (.dup, 1) := by decide +kernel
theorem dR_init_216 : decode bR_init 216 = .ok (.bipush 9, 2) := by decide +kernel
theorem dR_init_218 : decode bR_init 218 = .ok (.bipush 101, 2) := by decide +kernel
theorem dR_init_220 : decode bR_init 220 = .ok (.iastore, 1) := by decide +kernel
theorem dR_init_221 : decode bR_init 221 = .ok (.dup, 1) := by decide +kernel
theorem dR_init_222 : decode bR_init 222 = .ok (.bipush 10, 2) := by decide +kernel
theorem dR_init_224 : decode bR_init 224 = .ok (.bipush 101, 2) := by decide +kernel
theorem dR_init_226 : decode bR_init 226 = .ok (.iastore, 1) := by decide +kernel
theorem dR_init_227 : decode bR_init 227 = .ok (.dup, 1) := by decide +kernel
theorem dR_init_228 : decode bR_init 228 = .ok (.bipush 11, 2) := by decide +kernel
theorem dR_init_230 : decode bR_init 230 = .ok (.bipush 100, 2) := by decide +kernel
theorem dR_init_232 : decode bR_init 232 = .ok (.iastore, 1) := by decide +kernel
theorem dR_init_233 : decode bR_init 233 = .ok (.dup, 1) := by decide +kernel
theorem dR_init_234 : decode bR_init 234 = .ok (.bipush 12, 2) := by decide +kernel
theorem dR_init_236 : decode bR_init 236 = .ok (.bipush 103, 2) := by decide +kernel
theorem dR_init_238 : decode bR_init 238 = .ok (.iastore, 1) := by decide +kernel
theorem dR_init_239 : decode bR_init 239 = .ok (.dup, 1) := by decide +kernel
theorem dR_init_240 : decode bR_init 240 = .ok (.bipush 13, 2) := by decide +kernel
theorem dR_init_242 : decode bR_init 242 = .ok (.bipush 101, 2) := by decide +kernel
theorem dR_init_244 : decode bR_init 244 = .ok (.iastore, 1) := by decide +kernel
theorem dR_init_245 : decode bR_init 245 = .ok (.dup, 1) := by decide +kernel
theorem dR_init_246 : decode bR_init 246 = .ok (.bipush 14, 2) := by decide +kernel
theorem dR_init_248 : decode bR_init 248 = .ok (.iconst 0, 1) := by decide +kernel
theorem dR_init_249 : decode bR_init 249 = .ok (.iastore, 1) := by decide +kernel
theorem dR_init_250 : decode bR_init 250 = .ok (.dup, 1) := by decide +kernel
theorem dR_init_251 : decode bR_init 251 = .ok (.bipush 15, 2) := by decide +kernel
theorem dR_init_253 : decode bR_init 253 = .ok (.bipush 101, 2) := by decide +kernel
theorem dR_init_255 : decode bR_init 255 = .ok (.iastore, 1) := by decide +kernel
theorem dR_init_256 : decode bR_init 256 = .ok (.dup, 1) := by decide +kernel
theorem dR_init_257 : decode bR_init 257 = .ok (.bipush 16, 2) := by decide +kernel
theorem dR_init_259 : decode bR_init 259 = .ok (.bipush 110, 2) := by decide +kernel
theorem dR_init_261 : decode bR_init 261 = .ok (.iastore, 1) := by decide +kernel
theorem dR_init_262 : decode bR_init 262 = .ok (.dup, 1) := by decide +kernel
theorem dR_init_263 : decode bR_init 263 = .ok (.bipush 17, 2) := by decide +kernel
theorem dR_init_265 : decode bR_init 265 = .ok (.bipush 100, 2) := by decide +kernel
theorem dR_init_267 : decode bR_init 267 = .ok (.iastore, 1) := by decide +kernel
theorem dR_init_268 : decode bR_init 268 = .ok (.dup, 1) := by decide +kernel
theorem dR_init_269 : decode bR_init 269 = .ok (.bipush 18, 2) := by decide +kernel
theorem dR_init_271 : decode bR_init 271 = .ok (.iconst 0, 1) := by decide +kernel
theorem dR_init_272 : decode bR_init 272 = .ok (.iastore, 1) := by decide +kernel
theorem dR_init_273 : decode bR_init 273 = .ok (.dup, 1) := by decide +kernel
theorem dR_init_274 : decode bR_init 274 = .ok (.bipush 19, 2) := by decide +kernel
theorem dR_init_276 : decode bR_init 276 = .ok (.iconst 0, 1) := by decide +kernel
theorem dR_init_277 : decode bR_init 277 = .ok (.iastore, 1) := by decide +kernel
theorem dR_init_278 : decode bR_init 278 = .ok (.dup, 1) := by decide +kernel
theorem dR_init_279 : decode bR_init 279 = .ok (.bipush 20, 2) := by decide +kernel
theorem dR_init_281 : decode bR_init 281 = .ok (.bipush 115, 2) := by decide +kernel
theorem dR_init_283 : decode bR_init 283 = .ok (.iastore, 1) := by decide +kernel
theorem dR_init_284 : decode bR_init 284 = .ok (.dup, 1) := by decide +kernel
theorem dR_init_285 : decode bR_init 285 = .ok (.bipush 21, 2) := by decide +kernel
theorem dR_init_287 : decode bR_init 287 = .ok (.bipush 105, 2) := by decide +kernel
theorem dR_init_289 : decode bR_init 289 = .ok (.iastore, 1) := by decide +kernel
theorem dR_init_290 : decode bR_init 290 = .ok (.dup, 1) := by decide +kernel
theorem dR_init_291 : decode bR_init 291 = .ok (.bipush 22, 2) := by decide +kernel
theorem dR_init_293 : decode bR_init 293 = .ok (.bipush 100, 2) := by decide +kernel
theorem dR_init_295 : decode bR_init 295 = .ok (.iastore, 1) := by decide +kernel
theorem dR_init_296 : decode bR_init 296 = .ok (.dup, 1) := by decide +kernel
theorem dR_init_297 : decode bR_init 297 = .ok (.bipush 23, 2) := by decide +kernel
theorem dR_init_299 : decode bR_init 299 = .ok (.bipush 101, 2) := by decide +kernel
theorem dR_init_301 : decode bR_init 301 = .ok (.iastore, 1) := by decide +kernel
theorem dR_init_302 : decode bR_init 302 = .ok (.dup, 1) := by decide +kernel
theorem dR_init_303 : decode bR_init 303 = .ok (.bipush 24, 2) := by decide +kernel
theorem dR_init_305 : decode bR_init 305 = .ok (.iconst 0, 1) := by decide +kernel
theorem dR_init_306 : decode bR_init 306 = .ok (.iastore, 1) := by decide +kernel
theorem dR_init_307 : decode bR_init 307 = .ok (.dup, 1) := by decide +kernel
theorem dR_init_308 : decode bR_init 308 = .ok (.bipush 25, 2) := by decide +kernel
theorem dR_init_310 : decode bR_init 310 = .ok (.bipush 114, 2) := by decide +kernel
theorem dR_init_312 : decode bR_init 312 = .ok (.iastore, 1) := by decide +kernel
theorem dR_init_313 : decode bR_init 313 = .ok (.dup, 1) := by decide +kernel
theorem dR_init_314 : decode bR_init 314 = .ok (.bipush 26, 2) := by decide +kernel
theorem dR_init_316 : decode bR_init 316 = .ok (.bipush 111, 2) := by decide +kernel
theorem dR_init_318 : decode bR_init 318 = .ok (.iastore, 1) := by decide +kernel
theorem dR_init_319 : decode bR_init 319 = .ok (.dup, 1) := by decide +kernel
theorem dR_init_320 : decode bR_init 320 = .ok (.bipush 27, 2) := by decide +kernel
theorem dR_init_322 : decode bR_init 322 = .ok (.bipush 119, 2) := by decide +kernel
theorem dR_init_324 : decode bR_init 324 = .ok (.iastore, 1) := by decide +kernel
theorem dR_init_325 : decode bR_init 325 = .ok (.dup, 1) := by decide +kernel
theorem dR_init_326 : decode bR_init 326 = .ok (.bipush 28, 2) := by decide +kernel
theorem dR_init_328 : decode bR_init 328 = .ok (.iconst 0, 1) := by decide +kernel
theorem dR_init_329 : decode bR_init 329 = .ok (.iastore, 1) := by decide +kernel
theorem dR_init_330 : decode bR_init 330 = .ok (.dup, 1) := by decide +kernel
theorem dR_init_331 : decode bR_init 331 = .ok (.bipush 29, 2) := by decide +kernel
theorem dR_init_333 : decode bR_init 333 = .ok (.iconst 0, 1) := by decide +kernel
theorem dR_init_334 : decode bR_init 334 = .ok (.iastore, 1) := by decide +kernel
theorem dR_init_335 : decode bR_init 335 = .ok (.dup, 1) := by decide +kernel
theorem dR_init_336 : decode bR_init 336 = .ok (.bipush 30, 2) := by decide +kernel
theorem dR_init_338 : decode bR_init 338 = .ok (.bipush 116, 2) := by decide +kernel
theorem dR_init_340 : decode bR_init 340 = .ok (.iastore, 1) := by decide +kernel
theorem dR_init_341 : decode bR_init 341 = .ok (.dup, 1) := by decide +kernel
theorem dR_init_342 : decode bR_init 342 = .ok (.bipush 31, 2) := by decide +kernel
theorem dR_init_344 : decode bR_init 344 = .ok (.bipush 104, 2) := by decide +kernel
theorem dR_init_346 : decode bR_init 346 = .ok (.iastore, 1) := by decide +kernel
theorem dR_init_347 : decode bR_init 347 = .ok (.dup, 1) := by decide +kernel
theorem dR_init_348 : decode bR_init 348 = .ok (.bipush 32, 2) := by decide +kernel
theorem dR_init_350 : decode bR_init 350 = .ok (.bipush 105, 2) := by decide +kernel
theorem dR_init_352 : decode bR_init 352 = .ok (.iastore, 1) := by decide +kernel
theorem dR_init_353 : decode bR_init 353 = .ok (.dup, 1) := by decide +kernel
theorem dR_init_354 : decode bR_init 354 = .ok (.bipush 33, 2) := by decide +kernel
theorem dR_init_356 : decode bR_init 356 = .ok (.bipush 110, 2) := by decide +kernel
theorem dR_init_358 : decode bR_init 358 = .ok (.iastore, 1) := by decide +kernel
theorem dR_init_359 : decode bR_init 359 = .ok (.dup, 1) := by decide +kernel
theorem dR_init_360 : decode bR_init 360 = .ok (.bipush 34, 2) := by decide +kernel
theorem dR_init_362 : decode bR_init 362 = .ok (.iconst 0, 1) := by decide +kernel
theorem dR_init_363 : decode bR_init 363 = .ok (.iastore, 1) := by decide +kernel
theorem dR_init_364 : decode bR_init 364 = .ok (.putfield 19, 3) := by decide +kernel
theorem dR_init_367 : decode bR_init 367 = .ok (.aload_n 0, 1) := by decide +kernel
theorem dR_init_368 : decode bR_init 368 = .ok (.ldc2_w 22, 3) := by decide +kernel
theorem dR_init_371 : decode bR_init 371 = .ok (.putfield 24, 3) := by decide +kernel
theorem dR_init_374 : decode bR_init 374 = .ok (.aload_n 0, 1) := by decide +kernel
theorem dR_init_375 : decode bR_init 375 = .ok (.ldc2_w 28, 3) := by decide +kernel
theorem dR_init_378 : decode bR_init 378 = .ok (.putfield 30, 3) := by decide +kernel
theorem dR_init_381 : decode bR_init 381 = .ok (.aload_n 0, 1) := by decide +kernel
theorem dR_init_382 : decode bR_init 382 = .ok (.iconst (-1), 1) := by decide +kernel
theorem dR_init_383 : decode bR_init 383 = .ok (.putfield 33, 3) := by decide +kernel
theorem dR_init_386 : decode bR_init 386 = .ok (.aload_n 0, 1) := by decide +kernel
theorem dR_init_387 : decode bR_init 387 = .ok (.iconst 4, 1) := by decide +kernel
theorem dR_init_388 : decode bR_init 388 = .ok (.newarray .int, 2) := by decide +kernel
theorem dR_init_390 : decode bR_init 390 = .ok (.putfield 37, 3) := by decide +kernel
theorem dR_init_393 : decode bR_init 393 = .ok (.aload_n 0, 1) := by decide +kernel
theorem dR_init_394 : decode bR_init 394 = .ok (.bipush 32, 2) := by decide +kernel
theorem dR_init_396 : decode bR_init 396 = .ok (.newarray .int, 2) := by decide +kernel
theorem dR_init_398 : decode bR_init 398 = .ok (.putfield 40, 3) := by decide +kernel
theorem dR_init_401 : decode bR_init 401 = .ok (.aload_n 0, 1) := by decide +kernel
theorem dR_init_402 : decode bR_init 402 = .ok (.bipush 32, 2) := by decide +kernel
theorem dR_init_404 : decode bR_init 404 = .ok (.newarray .int, 2) := by decide +kernel
theorem dR_init_406 : decode bR_init 406 = .ok (.putfield 43, 3) := by decide +kernel
theorem dR_init_409 : decode bR_init 409 = .ok (.aload_n 0, 1) := by decide +kernel
theorem dR_init_410 : decode bR_init 410 = .ok (.bipush 24, 2) := by decide +kernel
theorem dR_init_412 : decode bR_init 412 = .ok (.newarray .int, 2) := by decide +kernel
theorem dR_init_414 : decode bR_init 414 = .ok (.putfield 46, 3) := by decide +kernel
theorem dR_init_417 : decode bR_init 417 = .ok (.aload_n 0, 1) := by decide +kernel
theorem dR_init_418 : decode bR_init 418 = .ok (.bipush 6, 2) := by decide +kernel
theorem dR_init_420 : decode bR_init 420 = .ok (.newarray .int, 2) := by decide +kernel
theorem dR_init_422 : decode bR_init 422 = .ok (.putfield 49, 3) := by decide +kernel
theorem dR_init_425 : decode bR_init 425 = .ok (.return_, 1) := by decide +kernel
theorem dR_isIn_0 : decode bR_isIn 0 = .ok (.lload_n 0, 1) := by decide +kernel
theorem dR_isIn_1 : decode bR_isIn 1 = .ok (.lload_n 2, 1) := by decide +kernel
theorem dR_isIn_2 : decode bR_isIn 2 = .ok (.lcmp, 1) := by decide +kernel
theorem dR_isIn_3 : decode bR_isIn 3 = .ok (.ifCond .lt 14, 3) := by decide +kernel
theorem dR_isIn_6 : decode bR_isIn 6 = .ok (.lload_n 0, 1) := by decide +kernel
theorem dR_isIn_7 : decode bR_isIn 7 = .ok (.lload 4, 2) := by decide +kernel
theorem dR_isIn_9 : decode bR_isIn 9 = .ok (.lcmp, 1) := by decide +kernel
theorem dR_isIn_10 : decode bR_isIn 10 = .ok (.ifCond .gt 7, 3) := by decide +kernel
theorem dR_isIn_13 : decode bR_isIn 13 = .ok (.iconst 1, 1) := by decide +kernel
theorem dR_isIn_14 : decode bR_isIn 14 = .ok (.goto 4, 3) := by decide +kernel
theorem dR_isIn_17 : decode bR_isIn 17 = .ok (.iconst 0, 1) := by decide +kernel
theorem dR_isIn_18 : decode bR_isIn 18 = .ok (.ireturn, 1) := by decide +kernel
theorem dR_isFour_0 : decode bR_isFour 0 = .ok (.iload_n 0, 1) := by decide +kernel
theorem dR_isFour_1 : decode bR_isFour 1 = .ok (.ifCond .lt 12, 3) := by decide +kernel
theorem dR_isFour_4 : decode bR_isFour 4 = .ok (.iload_n 0, 1) := by decide +kernel
theorem dR_isFour_5 : decode bR_isFour 5 = .ok (.iconst 4, 1) := by decide +kernel
theorem dR_isFour_6 : decode bR_isFour 6 = .ok (.if_icmp .ge 7, 3) := by decide +kernel
theorem dR_isFour_9 : decode bR_isFour 9 = .ok (.iconst 1, 1) := by decide +kernel
theorem dR_isFour_10 : decode bR_isFour 10 = .ok (.goto 4, 3) := by decide +kernel
theorem dR_isFour_13 : decode bR_isFour 13 = .ok (.iconst 0, 1) := by decide +kernel
theorem dR_isFour_14 : decode bR_isFour 14 = .ok (.ireturn, 1) := by decide +kernel
theorem dR_unit_0 : decode bR_unit 0 = .ok (.aload_n 0, 1) := by decide +kernel
theorem dR_unit_1 : decode bR_unit 1 = .ok (.iconst 0, 1) := by decide +kernel
theorem dR_unit_2 : decode bR_unit 2 = .ok (.putfield 52, 3) := by decide +kernel
theorem dR_unit_5 : decode bR_unit 5 = .ok (.iload_n 1, 1) := by decide +kernel
theorem dR_unit_6 : decode bR_unit 6 = .ok (.bipush 32, 2) := by decide +kernel
theorem dR_unit_8 : decode bR_unit 8 = .ok (.if_icmp .lt 23, 3) := by decide +kernel
theorem dR_unit_11 : decode bR_unit 11 = .ok (.iload_n 1, 1) := by decide +kernel
theorem dR_unit_12 : decode bR_unit 12 = .ok (.bipush 126, 2) := by decide +kernel
theorem dR_unit_14 : decode bR_unit 14 = .ok (.if_icmp .gt 17, 3) := by decide +kernel
theorem dR_unit_17 : decode bR_unit 17 = .ok (.aload_n 0, 1) := by decide +kernel
theorem dR_unit_18 : decode bR_unit 18 = .ok (.getfield 55, 3) := by decide +kernel
theorem dR_unit_21 : decode bR_unit 21 = .ok (.sipush 200, 3) := by decide +kernel
theorem dR_unit_24 : decode bR_unit 24 = .ok (.if_icmp .ge 7, 3) := by decide +kernel
theorem dR_unit_27 : decode bR_unit 27 = .ok (.iconst 1, 1) := by decide +kernel
theorem dR_unit_28 : decode bR_unit 28 = .ok (.goto 4, 3) := by decide +kernel
theorem dR_unit_31 : decode bR_unit 31 = .ok (.iconst 0, 1) := by decide +kernel
theorem dR_unit_32 : decode bR_unit 32 = .ok (.istore_n 2, 1) := by decide +kernel
theorem dR_unit_33 : decode bR_unit 33 = .ok (.iload_n 2, 1) := by decide +kernel
theorem dR_unit_34 : decode bR_unit 34 = .ok (.ifCond .eq 23, 3) := by decide +kernel
theorem dR_unit_37 : decode bR_unit 37 = .ok (.aload_n 0, 1) := by decide +kernel
theorem dR_unit_38 : decode bR_unit 38 = .ok (.getfield 7, 3) := by decide +kernel
theorem dR_unit_41 : decode bR_unit 41 = .ok (.aload_n 0, 1) := by decide +kernel
theorem dR_unit_42 : decode bR_unit 42 = .ok (.getfield 55, 3) := by decide +kernel
theorem dR_unit_45 : decode bR_unit 45 = .ok (.iload_n 1, 1) := by decide +kernel
theorem dR_unit_46 : decode bR_unit 46 = .ok (.iastore, 1) := by decide +kernel
theorem dR_unit_47 : decode bR_unit 47 = .ok (.aload_n 0, 1) := by decide +kernel
theorem dR_unit_48 : decode bR_unit 48 = .ok (.dup, 1) := by decide +kernel
theorem dR_unit_49 : decode bR_unit 49 = .ok (.getfield 55, 3) := by decide +kernel
theorem dR_unit_52 : decode bR_unit 52 = .ok (.iconst 1, 1) := by decide +kernel
theorem dR_unit_53 : decode bR_unit 53 = .ok (.iadd, 1) := by decide +kernel
theorem dR_unit_54 : decode bR_unit 54 = .ok (.putfield 55, 3) := by decide +kernel
theorem dR_unit_57 : decode bR_unit 57 = .ok (.iload_n 2, 1) := by decide +kernel
theorem dR_unit_58 : decode bR_unit 58 = .ok (.ireturn, 1) := by decide +kernel
theorem dR_now_0 : decode bR_now 0 = .ok (.aload_n 0, 1) := by decide +kernel
theorem dR_now_1 : decode bR_now 1 = .ok (.getfield 58, 3) := by decide +kernel
theorem dR_now_4 : decode bR_now 4 = .ok (.aload_n 0, 1) := by decide +kernel
theorem dR_now_5 : decode bR_now 5 = .ok (.getfield 55, 3) := by decide +kernel
theorem dR_now_8 : decode bR_now 8 = .ok (.if_icmp .ge 15, 3) := by decide +kernel
theorem dR_now_11 : decode bR_now 11 = .ok (.aload_n 0, 1) := by decide +kernel
theorem dR_now_12 : decode bR_now 12 = .ok (.getfield 7, 3) := by decide +kernel
theorem dR_now_15 : decode bR_now 15 = .ok (.aload_n 0, 1) := by decide +kernel
theorem dR_now_16 : decode bR_now 16 = .ok (.getfield 58, 3) := by decide +kernel
theorem dR_now_19 : decode bR_now 19 = .ok (.iaload, 1) := by decide +kernel
theorem dR_now_20 : decode bR_now 20 = .ok (.goto 4, 3) := by decide +kernel
theorem dR_now_23 : decode bR_now 23 = .ok (.iconst (-1), 1) := by decide +kernel
theorem dR_now_24 : decode bR_now 24 = .ok (.ireturn, 1) := by decide +kernel
theorem dR_must_0 : decode bR_must 0 = .ok (.aload_n 0, 1) := by decide +kernel
theorem dR_must_1 : decode bR_must 1 = .ok (.getfield 61, 3) := by decide +kernel
theorem dR_must_4 : decode bR_must 4 = .ok (.iconst (-1), 1) := by decide +kernel
theorem dR_must_5 : decode bR_must 5 = .ok (.if_icmp .ne 15, 3) := by decide +kernel
theorem dR_must_8 : decode bR_must 8 = .ok (.iload_n 1, 1) := by decide +kernel
theorem dR_must_9 : decode bR_must 9 = .ok (.ifCond .ne 11, 3) := by decide +kernel
theorem dR_must_12 : decode bR_must 12 = .ok (.aload_n 0, 1) := by decide +kernel
theorem dR_must_13 : decode bR_must 13 = .ok (.aload_n 0, 1) := by decide +kernel
theorem dR_must_14 : decode bR_must 14 = .ok (.getfield 58, 3) := by decide +kernel
theorem dR_must_17 : decode bR_must 17 = .ok (.putfield 61, 3) := by decide +kernel
theorem dR_must_20 : decode bR_must 20 = .ok (.aload_n 0, 1) := by decide +kernel
theorem dR_must_21 : decode bR_must 21 = .ok (.getfield 61, 3) := by decide +kernel
theorem dR_must_24 : decode bR_must 24 = .ok (.iconst (-1), 1) := by decide +kernel
theorem dR_must_25 : decode bR_must 25 = .ok (.if_icmp .ne 13, 3) := by decide +kernel
theorem dR_must_28 : decode bR_must 28 = .ok (.aload_n 0, 1) := by decide +kernel
theorem dR_must_29 : decode bR_must 29 = .ok (.dup, 1) := by decide +kernel
theorem dR_must_30 : decode bR_must 30 = .ok (.getfield 58, 3) := by decide +kernel
theorem dR_must_33 : decode bR_must 33 = .ok (.iconst 1, 1) := by decide +kernel
theorem dR_must_34 : decode bR_must 34 = .ok (.iadd, 1) := by decide +kernel
theorem dR_must_35 : decode bR_must 35 = .ok (.putfield 58, 3) := by decide +kernel
theorem dR_must_38 : decode bR_must 38 = .ok (.return_, 1) := by decide +kernel
theorem dR_kindOf_0 : decode bR_kindOf 0 = .ok (.iload_n 0, 1) := by decide +kernel
theorem dR_kindOf_1 : decode bR_kindOf 1 = .ok (.bipush 110, 2) := by decide +kernel
theorem dR_kindOf_3 : decode bR_kindOf 3 = .ok (.if_icmp .ne 7, 3) := by decide +kernel
theorem dR_kindOf_6 : decode bR_kindOf 6 = .ok (.iconst 0, 1) := by decide +kernel
theorem dR_kindOf_7 : decode bR_kindOf 7 = .ok (.goto 34, 3) := by decide +kernel
theorem dR_kindOf_10 : decode bR_kindOf 10 = .ok (.iload_n 0, 1) := by decide +kernel
theorem dR_kindOf_11 : decode bR_kindOf 11 = .ok (.bipush 115, 2) := by decide +kernel
theorem dR_kindOf_13 : decode bR_kindOf 13 = .ok (.if_icmp .ne 7, 3) := by decide +kernel
theorem dR_kindOf_16 : decode bR_kindOf 16 = .ok (.iconst 1, 1) := by decide +kernel
theorem dR_kindOf_17 : decode bR_kindOf 17 = .ok (.goto 24, 3) := by decide +kernel
theorem dR_kindOf_20 : decode bR_kindOf 20 = .ok (.iload_n 0, 1) := by decide +kernel
theorem dR_kindOf_21 : decode bR_kindOf 21 = .ok (.bipush 98, 2) := by decide +kernel
theorem dR_kindOf_23 : decode bR_kindOf 23 = .ok (.if_icmp .ne 7, 3) := by decide +kernel
theorem dR_kindOf_26 : decode bR_kindOf 26 = .ok (.iconst 2, 1) := by decide +kernel
theorem dR_kindOf_27 : decode bR_kindOf 27 = .ok (.goto 14, 3) := by decide +kernel
theorem dR_kindOf_30 : decode bR_kindOf 30 = .ok (.iload_n 0, 1) := by decide +kernel
theorem dR_kindOf_31 : decode bR_kindOf 31 = .ok (.bipush 100, 2) := by decide +kernel
theorem dR_kindOf_33 : decode bR_kindOf 33 = .ok (.if_icmp .ne 7, 3) := by decide +kernel
theorem dR_kindOf_36 : decode bR_kindOf 36 = .ok (.iconst 3, 1) := by decide +kernel
theorem dR_kindOf_37 : decode bR_kindOf 37 = .ok (.goto 4, 3) := by decide +kernel
theorem dR_kindOf_40 : decode bR_kindOf 40 = .ok (.iconst (-1), 1) := by decide +kernel
theorem dR_kindOf_41 : decode bR_kindOf 41 = .ok (.ireturn, 1) := by decide +kernel
theorem dR_may_0 : decode bR_may 0 = .ok (.iconst 1, 1) := by decide +kernel
theorem dR_may_1 : decode bR_may 1 = .ok (.istore 4, 2) := by decide +kernel
theorem dR_may_3 : decode bR_may 3 = .ok (.iconst 0, 1) := by decide +kernel
theorem dR_may_4 : decode bR_may 4 = .ok (.istore 5, 2) := by decide +kernel
theorem dR_may_6 : decode bR_may 6 = .ok (.iload 5, 2) := by decide +kernel
theorem dR_may_8 : decode bR_may 8 = .ok (.aload_n 0, 1) := by decide +kernel
theorem dR_may_9 : decode bR_may 9 = .ok (.getfield 58, 3) := by decide +kernel
theorem dR_may_12 : decode bR_may 12 = .ok (.iload_n 2, 1) := by decide +kernel
theorem dR_may_13 : decode bR_may 13 = .ok (.isub, 1) := by decide +kernel
theorem dR_may_14 : decode bR_may 14 = .ok (.if_icmp .ge 44, 3) := by decide +kernel
theorem dR_may_17 : decode bR_may 17 = .ok (.iload 4, 2) := by decide +kernel
theorem dR_may_19 : decode bR_may 19 = .ok (.ifCond .eq 30, 3) := by decide +kernel
theorem dR_may_22 : decode bR_may 22 = .ok (.aload_n 0, 1) := by decide +kernel
theorem dR_may_23 : decode bR_may 23 = .ok (.getfield 19, 3) := by decide +kernel
theorem dR_may_26 : decode bR_may 26 = .ok (.iconst 5, 1) := by decide +kernel
theorem dR_may_27 : decode bR_may 27 = .ok (.iload_n 1, 1) := by decide +kernel
theorem dR_may_28 : decode bR_may 28 = .ok (.imul, 1) := by decide +kernel
theorem dR_may_29 : decode bR_may 29 = .ok (.iload 5, 2) := by decide +kernel
theorem dR_may_31 : decode bR_may 31 = .ok (.iadd, 1) := by decide +kernel
theorem dR_may_32 : decode bR_may 32 = .ok (.iaload, 1) := by decide +kernel
theorem dR_may_33 : decode bR_may 33 = .ok (.aload_n 0, 1) := by decide +kernel
theorem dR_may_34 : decode bR_may 34 = .ok (.getfield 7, 3) := by decide +kernel
theorem dR_may_37 : decode bR_may 37 = .ok (.iload_n 2, 1) := by decide +kernel
theorem dR_may_38 : decode bR_may 38 = .ok (.iload 5, 2) := by decide +kernel
theorem dR_may_40 : decode bR_may 40 = .ok (.iadd, 1) := by decide +kernel
theorem dR_may_41 : decode bR_may 41 = .ok (.iaload, 1) := by decide +kernel
theorem dR_may_42 : decode bR_may 42 = .ok (.if_icmp .ne 7, 3) := by decide +kernel
theorem dR_may_45 : decode bR_may 45 = .ok (.iconst 1, 1) := by decide +kernel
theorem dR_may_46 : decode bR_may 46 = .ok (.goto 4, 3) := by decide +kernel
theorem dR_may_49 : decode bR_may 49 = .ok (.iconst 0, 1) := by decide +kernel
theorem dR_may_50 : decode bR_may 50 = .ok (.istore 4, 2) := by decide +kernel
theorem dR_may_52 : decode bR_may 52 = .ok (.iinc 5 1, 3) := by decide +kernel
theorem dR_may_55 : decode bR_may 55 = .ok (.goto (-49), 3) := by decide +kernel
theorem dR_may_58 : decode bR_may 58 = .ok (.iload 4, 2) := by decide +kernel
theorem dR_may_60 : decode bR_may 60 = .ok (.ifCond .eq 36, 3) := by decide +kernel
theorem dR_may_63 : decode bR_may 63 = .ok (.aload_n 0, 1) := by decide +kernel
theorem dR_may_64 : decode bR_may 64 = .ok (.getfield 58, 3) := by decide +kernel
theorem dR_may_67 : decode bR_may 67 = .ok (.iload_n 2, 1) := by decide +kernel
theorem dR_may_68 : decode bR_may 68 = .ok (.isub, 1) := by decide +kernel
theorem dR_may_69 : decode bR_may 69 = .ok (.iconst 5, 1) := by decide +kernel
theorem dR_may_70 : decode bR_may 70 = .ok (.if_icmp .ge 26, 3) := by decide +kernel
theorem dR_may_73 : decode bR_may 73 = .ok (.aload_n 0, 1) := by decide +kernel
theorem dR_may_74 : decode bR_may 74 = .ok (.getfield 19, 3) := by decide +kernel
theorem dR_may_77 : decode bR_may 77 = .ok (.iconst 5, 1) := by decide +kernel
theorem dR_may_78 : decode bR_may 78 = .ok (.iload_n 1, 1) := by decide +kernel
theorem dR_may_79 : decode bR_may 79 = .ok (.imul, 1) := by decide +kernel
theorem dR_may_80 : decode bR_may 80 = .ok (.aload_n 0, 1) := by decide +kernel
theorem dR_may_81 : decode bR_may 81 = .ok (.getfield 58, 3) := by decide +kernel
theorem dR_may_84 : decode bR_may 84 = .ok (.iadd, 1) := by decide +kernel
theorem dR_may_85 : decode bR_may 85 = .ok (.iload_n 2, 1) := by decide +kernel
theorem dR_may_86 : decode bR_may 86 = .ok (.isub, 1) := by decide +kernel
theorem dR_may_87 : decode bR_may 87 = .ok (.iaload, 1) := by decide +kernel
theorem dR_may_88 : decode bR_may 88 = .ok (.iload_n 3, 1) := by decide +kernel
theorem dR_may_89 : decode bR_may 89 = .ok (.if_icmp .ne 7, 3) := by decide +kernel
theorem dR_may_92 : decode bR_may 92 = .ok (.iconst 1, 1) := by decide +kernel
theorem dR_may_93 : decode bR_may 93 = .ok (.goto 4, 3) := by decide +kernel
theorem dR_may_96 : decode bR_may 96 = .ok (.iconst 0, 1) := by decide +kernel
theorem dR_may_97 : decode bR_may 97 = .ok (.ireturn, 1) := by decide +kernel
theorem dR_whole_0 : decode bR_whole 0 = .ok (.iconst (-1), 1) := by decide +kernel
theorem dR_whole_1 : decode bR_whole 1 = .ok (.istore_n 2, 1) := by decide +kernel
theorem dR_whole_2 : decode bR_whole 2 = .ok (.iconst 0, 1) := by decide +kernel
theorem dR_whole_3 : decode bR_whole 3 = .ok (.istore_n 3, 1) := by decide +kernel
theorem dR_whole_4 : decode bR_whole 4 = .ok (.iload_n 3, 1) := by decide +kernel
theorem dR_whole_5 : decode bR_whole 5 = .ok (.bipush 7, 2) := by decide +kernel
theorem dR_whole_7 : decode bR_whole 7 = .ok (.if_icmp .ge 110, 3) := by decide +kernel
theorem dR_whole_10 : decode bR_whole 10 = .ok (.aload_n 0, 1) := by decide +kernel
theorem dR_whole_11 : decode bR_whole 11 = .ok (.getfield 58, 3) := by decide +kernel
theorem dR_whole_14 : decode bR_whole 14 = .ok (.iload_n 1, 1) := by decide +kernel
theorem dR_whole_15 : decode bR_whole 15 = .ok (.isub, 1) := by decide +kernel
theorem dR_whole_16 : decode bR_whole 16 = .ok (.iconst 5, 1) := by decide +kernel
theorem dR_whole_17 : decode bR_whole 17 = .ok (.if_icmp .eq 21, 3) := by decide +kernel
theorem dR_whole_20 : decode bR_whole 20 = .ok (.aload_n 0, 1) := by decide +kernel
theorem dR_whole_21 : decode bR_whole 21 = .ok (.getfield 19, 3) := by decide +kernel
theorem dR_whole_24 : decode bR_whole 24 = .ok (.iconst 5, 1) := by decide +kernel
theorem dR_whole_25 : decode bR_whole 25 = .ok (.iload_n 3, 1) := by decide +kernel
theorem dR_whole_26 : decode bR_whole 26 = .ok (.imul, 1) := by decide +kernel
theorem dR_whole_27 : decode bR_whole 27 = .ok (.aload_n 0, 1) := by decide +kernel
theorem dR_whole_28 : decode bR_whole 28 = .ok (.getfield 58, 3) := by decide +kernel
theorem dR_whole_31 : decode bR_whole 31 = .ok (.iadd, 1) := by decide +kernel
theorem dR_whole_32 : decode bR_whole 32 = .ok (.iload_n 1, 1) := by decide +kernel
theorem dR_whole_33 : decode bR_whole 33 = .ok (.isub, 1) := by decide +kernel
theorem dR_whole_34 : decode bR_whole 34 = .ok (.iaload, 1) := by decide +kernel
theorem dR_whole_35 : decode bR_whole 35 = .ok (.ifCond .ne 7, 3) := by decide +kernel
theorem dR_whole_38 : decode bR_whole 38 = .ok (.iconst 1, 1) := by decide +kernel
theorem dR_whole_39 : decode bR_whole 39 = .ok (.goto 4, 3) := by decide +kernel
theorem dR_whole_42 : decode bR_whole 42 = .ok (.iconst 0, 1) := by decide +kernel
theorem dR_whole_43 : decode bR_whole 43 = .ok (.istore 4, 2) := by decide +kernel
theorem dR_whole_45 : decode bR_whole 45 = .ok (.iconst 0, 1) := by decide +kernel
theorem dR_whole_46 : decode bR_whole 46 = .ok (.istore 5, 2) := by decide +kernel
theorem dR_whole_48 : decode bR_whole 48 = .ok (.iload 5, 2) := by decide +kernel
theorem dR_whole_50 : decode bR_whole 50 = .ok (.aload_n 0, 1) := by decide +kernel
theorem dR_whole_51 : decode bR_whole 51 = .ok (.getfield 58, 3) := by decide +kernel
theorem dR_whole_54 : decode bR_whole 54 = .ok (.iload_n 1, 1) := by decide +kernel
theorem dR_whole_55 : decode bR_whole 55 = .ok (.isub, 1) := by decide +kernel
theorem dR_whole_56 : decode bR_whole 56 = .ok (.if_icmp .ge 44, 3) := by decide +kernel
theorem dR_whole_59 : decode bR_whole 59 = .ok (.iload 4, 2) := by decide +kernel
theorem dR_whole_61 : decode bR_whole 61 = .ok (.ifCond .eq 30, 3) := by decide +kernel
theorem dR_whole_64 : decode bR_whole 64 = .ok (.aload_n 0, 1) := by decide +kernel
theorem dR_whole_65 : decode bR_whole 65 = .ok (.getfield 19, 3) := by decide +kernel
theorem dR_whole_68 : decode bR_whole 68 = .ok (.iconst 5, 1) := by decide +kernel
theorem dR_whole_69 : decode bR_whole 69 = .ok (.iload_n 3, 1) := by decide +kernel
theorem dR_whole_70 : decode bR_whole 70 = .ok (.imul, 1) := by decide +kernel
theorem dR_whole_71 : decode bR_whole 71 = .ok (.iload 5, 2) := by decide +kernel
theorem dR_whole_73 : decode bR_whole 73 = .ok (.iadd, 1) := by decide +kernel
theorem dR_whole_74 : decode bR_whole 74 = .ok (.iaload, 1) := by decide +kernel
theorem dR_whole_75 : decode bR_whole 75 = .ok (.aload_n 0, 1) := by decide +kernel
theorem dR_whole_76 : decode bR_whole 76 = .ok (.getfield 7, 3) := by decide +kernel
theorem dR_whole_79 : decode bR_whole 79 = .ok (.iload_n 1, 1) := by decide +kernel
theorem dR_whole_80 : decode bR_whole 80 = .ok (.iload 5, 2) := by decide +kernel
theorem dR_whole_82 : decode bR_whole 82 = .ok (.iadd, 1) := by decide +kernel
theorem dR_whole_83 : decode bR_whole 83 = .ok (.iaload, 1) := by decide +kernel
theorem dR_whole_84 : decode bR_whole 84 = .ok (.if_icmp .ne 7, 3) := by decide +kernel
theorem dR_whole_87 : decode bR_whole 87 = .ok (.iconst 1, 1) := by decide +kernel
theorem dR_whole_88 : decode bR_whole 88 = .ok (.goto 4, 3) := by decide +kernel
theorem dR_whole_91 : decode bR_whole 91 = .ok (.iconst 0, 1) := by decide +kernel
theorem dR_whole_92 : decode bR_whole 92 = .ok (.istore 4, 2) := by decide +kernel
theorem dR_whole_94 : decode bR_whole 94 = .ok (.iinc 5 1, 3) := by decide +kernel
theorem dR_whole_97 : decode bR_whole 97 = .ok (.goto (-49), 3) := by decide +kernel
theorem dR_whole_100 : decode bR_whole 100 = .ok (.iload 4, 2) := by decide +kernel
theorem dR_whole_102 : decode bR_whole 102 = .ok (.ifCond .eq 7, 3) := by decide +kernel
theorem dR_whole_105 : decode bR_whole 105 = .ok (.iload_n 3, 1) := by decide +kernel
theorem dR_whole_106 : decode bR_whole 106 = .ok (.goto 4, 3) := by decide +kernel
theorem dR_whole_109 : decode bR_whole 109 = .ok (.iload_n 2, 1) := by decide +kernel
theorem dR_whole_110 : decode bR_whole 110 = .ok (.istore_n 2, 1) := by decide +kernel
theorem dR_whole_111 : decode bR_whole 111 = .ok (.iinc 3 1, 3) := by decide +kernel
theorem dR_whole_114 : decode bR_whole 114 = .ok (.goto (-110), 3) := by decide +kernel
theorem dR_whole_117 : decode bR_whole 117 = .ok (.iload_n 2, 1) := by decide +kernel
theorem dR_whole_118 : decode bR_whole 118 = .ok (.ireturn, 1) := by decide +kernel
theorem dR_word_0 : decode bR_word 0 = .ok (.aload_n 0, 1) := by decide +kernel
theorem dR_word_1 : decode bR_word 1 = .ok (.getfield 58, 3) := by decide +kernel
theorem dR_word_4 : decode bR_word 4 = .ok (.istore_n 1, 1) := by decide +kernel
theorem dR_word_5 : decode bR_word 5 = .ok (.aload_n 0, 1) := by decide +kernel
theorem dR_word_6 : decode bR_word 6 = .ok (.getfield 61, 3) := by decide +kernel
theorem dR_word_9 : decode bR_word 9 = .ok (.iconst (-1), 1) := by decide +kernel
theorem dR_word_10 : decode bR_word 10 = .ok (.if_icmp .ne 67, 3) := by decide +kernel
theorem dR_word_13 : decode bR_word 13 = .ok (.aload_n 0, 1) := by decide +kernel
theorem dR_word_14 : decode bR_word 14 = .ok (.iload_n 1, 1) := by decide +kernel
theorem dR_word_15 : decode bR_word 15 = .ok (.invokevirtual 64, 3) := by decide +kernel
theorem dR_word_18 : decode bR_word 18 = .ok (.iconst (-1), 1) := by decide +kernel
theorem dR_word_19 : decode bR_word 19 = .ok (.if_icmp .ne 58, 3) := by decide +kernel
theorem dR_word_22 : decode bR_word 22 = .ok (.iconst 0, 1) := by decide +kernel
theorem dR_word_23 : decode bR_word 23 = .ok (.istore_n 2, 1) := by decide +kernel
theorem dR_word_24 : decode bR_word 24 = .ok (.iconst 0, 1) := by decide +kernel
theorem dR_word_25 : decode bR_word 25 = .ok (.istore_n 3, 1) := by decide +kernel
theorem dR_word_26 : decode bR_word 26 = .ok (.iload_n 3, 1) := by decide +kernel
theorem dR_word_27 : decode bR_word 27 = .ok (.bipush 7, 2) := by decide +kernel
theorem dR_word_29 : decode bR_word 29 = .ok (.if_icmp .ge 40, 3) := by decide +kernel
theorem dR_word_32 : decode bR_word 32 = .ok (.iload_n 2, 1) := by decide +kernel
theorem dR_word_33 : decode bR_word 33 = .ok (.ifCond .ne 24, 3) := by decide +kernel
theorem dR_word_36 : decode bR_word 36 = .ok (.aload_n 0, 1) := by decide +kernel
theorem dR_word_37 : decode bR_word 37 = .ok (.invokevirtual 68, 3) := by decide +kernel
theorem dR_word_40 : decode bR_word 40 = .ok (.iconst (-1), 1) := by decide +kernel
theorem dR_word_41 : decode bR_word 41 = .ok (.if_icmp .eq 20, 3) := by decide +kernel
theorem dR_word_44 : decode bR_word 44 = .ok (.aload_n 0, 1) := by decide +kernel
theorem dR_word_45 : decode bR_word 45 = .ok (.iload_n 3, 1) := by decide +kernel
theorem dR_word_46 : decode bR_word 46 = .ok (.iload_n 1, 1) := by decide +kernel
theorem dR_word_47 : decode bR_word 47 = .ok (.aload_n 0, 1) := by decide +kernel
theorem dR_word_48 : decode bR_word 48 = .ok (.invokevirtual 68, 3) := by decide +kernel
theorem dR_word_51 : decode bR_word 51 = .ok (.invokevirtual 72, 3) := by decide +kernel
theorem dR_word_54 : decode bR_word 54 = .ok (.ifCond .eq 7, 3) := by decide +kernel
theorem dR_word_57 : decode bR_word 57 = .ok (.iconst 1, 1) := by decide +kernel
theorem dR_word_58 : decode bR_word 58 = .ok (.goto 4, 3) := by decide +kernel
theorem dR_word_61 : decode bR_word 61 = .ok (.iconst 0, 1) := by decide +kernel
theorem dR_word_62 : decode bR_word 62 = .ok (.istore_n 2, 1) := by decide +kernel
theorem dR_word_63 : decode bR_word 63 = .ok (.iinc 3 1, 3) := by decide +kernel
theorem dR_word_66 : decode bR_word 66 = .ok (.goto (-40), 3) := by decide +kernel
theorem dR_word_69 : decode bR_word 69 = .ok (.aload_n 0, 1) := by decide +kernel
theorem dR_word_70 : decode bR_word 70 = .ok (.iload_n 2, 1) := by decide +kernel
theorem dR_word_71 : decode bR_word 71 = .ok (.invokevirtual 76, 3) := by decide +kernel
theorem dR_word_74 : decode bR_word 74 = .ok (.goto (-69), 3) := by decide +kernel
theorem dR_word_77 : decode bR_word 77 = .ok (.aload_n 0, 1) := by decide +kernel
theorem dR_word_78 : decode bR_word 78 = .ok (.getfield 61, 3) := by decide +kernel
theorem dR_word_81 : decode bR_word 81 = .ok (.iconst (-1), 1) := by decide +kernel
theorem dR_word_82 : decode bR_word 82 = .ok (.if_icmp .ne 11, 3) := by decide +kernel
theorem dR_word_85 : decode bR_word 85 = .ok (.aload_n 0, 1) := by decide +kernel
theorem dR_word_86 : decode bR_word 86 = .ok (.iload_n 1, 1) := by decide +kernel
theorem dR_word_87 : decode bR_word 87 = .ok (.invokevirtual 64, 3) := by decide +kernel
theorem dR_word_90 : decode bR_word 90 = .ok (.goto 4, 3) := by decide +kernel
theorem dR_word_93 : decode bR_word 93 = .ok (.iconst 0, 1) := by decide +kernel
theorem dR_word_94 : decode bR_word 94 = .ok (.ireturn, 1) := by decide +kernel
theorem dR_isDigit_0 : decode bR_isDigit 0 = .ok (.aload_n 0, 1) := by decide +kernel
theorem dR_isDigit_1 : decode bR_isDigit 1 = .ok (.invokevirtual 68, 3) := by decide +kernel
theorem dR_isDigit_4 : decode bR_isDigit 4 = .ok (.bipush 48, 2) := by decide +kernel
theorem dR_isDigit_6 : decode bR_isDigit 6 = .ok (.if_icmp .lt 16, 3) := by decide +kernel
theorem dR_isDigit_9 : decode bR_isDigit 9 = .ok (.aload_n 0, 1) := by decide +kernel
theorem dR_isDigit_10 : decode bR_isDigit 10 = .ok (.invokevirtual 68, 3) := by decide +kernel
theorem dR_isDigit_13 : decode bR_isDigit 13 = .ok (.bipush 57, 2) := by decide +kernel
theorem dR_isDigit_15 : decode bR_isDigit 15 = .ok (.if_icmp .gt 7, 3) := by decide +kernel
theorem dR_isDigit_18 : decode bR_isDigit 18 = .ok (.iconst 1, 1) := by decide +kernel
theorem dR_isDigit_19 : decode bR_isDigit 19 = .ok (.goto 4, 3) := by decide +kernel
theorem dR_isDigit_22 : decode bR_isDigit 22 = .ok (.iconst 0, 1) := by decide +kernel
theorem dR_isDigit_23 : decode bR_isDigit 23 = .ok (.ireturn, 1) := by decide +kernel
theorem dR_number_0 : decode bR_number 0 = .ok (.aload_n 0, 1) := by decide +kernel
theorem dR_number_1 : decode bR_number 1 = .ok (.getfield 58, 3) := by decide +kernel
theorem dR_number_4 : decode bR_number 4 = .ok (.istore_n 1, 1) := by decide +kernel
theorem dR_number_5 : decode bR_number 5 = .ok (.iconst 0, 1) := by decide +kernel
theorem dR_number_6 : decode bR_number 6 = .ok (.istore_n 2, 1) := by decide +kernel
theorem dR_number_7 : decode bR_number 7 = .ok (.iconst 0, 1) := by decide +kernel
theorem dR_number_8 : decode bR_number 8 = .ok (.istore_n 3, 1) := by decide +kernel
theorem dR_number_9 : decode bR_number 9 = .ok (.aload_n 0, 1) := by decide +kernel
theorem dR_number_10 : decode bR_number 10 = .ok (.aload_n 0, 1) := by decide +kernel
theorem dR_number_11 : decode bR_number 11 = .ok (.invokevirtual 80, 3) := by decide +kernel
theorem dR_number_14 : decode bR_number 14 = .ok (.invokevirtual 76, 3) := by decide +kernel
theorem dR_number_17 : decode bR_number 17 = .ok (.aload_n 0, 1) := by decide +kernel
theorem dR_number_18 : decode bR_number 18 = .ok (.getfield 61, 3) := by decide +kernel
theorem dR_number_21 : decode bR_number 21 = .ok (.iconst (-1), 1) := by decide +kernel
theorem dR_number_22 : decode bR_number 22 = .ok (.if_icmp .eq 5, 3) := by decide +kernel
theorem dR_number_25 : decode bR_number 25 = .ok (.iconst 0, 1) := by decide +kernel
theorem dR_number_26 : decode bR_number 26 = .ok (.ireturn, 1) := by decide +kernel
theorem dR_number_27 : decode bR_number 27 = .ok (.aload_n 0, 1) := by decide +kernel
theorem dR_number_28 : decode bR_number 28 = .ok (.getfield 7, 3) := by decide +kernel
theorem dR_number_31 : decode bR_number 31 = .ok (.iload_n 1, 1) := by decide +kernel
theorem dR_number_32 : decode bR_number 32 = .ok (.iaload, 1) := by decide +kernel
theorem dR_number_33 : decode bR_number 33 = .ok (.bipush 48, 2) := by decide +kernel
theorem dR_number_35 : decode bR_number 35 = .ok (.isub, 1) := by decide +kernel
theorem dR_number_36 : decode bR_number 36 = .ok (.istore_n 2, 1) := by decide +kernel
theorem dR_number_37 : decode bR_number 37 = .ok (.iconst 1, 1) := by decide +kernel
theorem dR_number_38 : decode bR_number 38 = .ok (.istore_n 3, 1) := by decide +kernel
theorem dR_number_39 : decode bR_number 39 = .ok (.iload_n 3, 1) := by decide +kernel
theorem dR_number_40 : decode bR_number 40 = .ok (.iconst 4, 1) := by decide +kernel
theorem dR_number_41 : decode bR_number 41 = .ok (.if_icmp .ge 39, 3) := by decide +kernel
theorem dR_number_44 : decode bR_number 44 = .ok (.aload_n 0, 1) := by decide +kernel
theorem dR_number_45 : decode bR_number 45 = .ok (.invokevirtual 80, 3) := by decide +kernel
theorem dR_number_48 : decode bR_number 48 = .ok (.ifCond .eq 32, 3) := by decide +kernel
theorem dR_number_51 : decode bR_number 51 = .ok (.bipush 10, 2) := by decide +kernel
theorem dR_number_53 : decode bR_number 53 = .ok (.iload_n 2, 1) := by decide +kernel
theorem dR_number_54 : decode bR_number 54 = .ok (.imul, 1) := by decide +kernel
theorem dR_number_55 : decode bR_number 55 = .ok (.aload_n 0, 1) := by decide +kernel
theorem dR_number_56 : decode bR_number 56 = .ok (.invokevirtual 68, 3) := by decide +kernel
theorem dR_number_59 : decode bR_number 59 = .ok (.iadd, 1) := by decide +kernel
theorem dR_number_60 : decode bR_number 60 = .ok (.bipush 48, 2) := by decide +kernel
theorem dR_number_62 : decode bR_number 62 = .ok (.isub, 1) := by decide +kernel
theorem dR_number_63 : decode bR_number 63 = .ok (.istore_n 2, 1) := by decide +kernel
theorem dR_number_64 : decode bR_number 64 = .ok (.aload_n 0, 1) := by decide +kernel
theorem dR_number_65 : decode bR_number 65 = .ok (.dup, 1) := by decide +kernel
theorem dR_number_66 : decode bR_number 66 = .ok (.getfield 58, 3) := by decide +kernel
theorem dR_number_69 : decode bR_number 69 = .ok (.iconst 1, 1) := by decide +kernel
theorem dR_number_70 : decode bR_number 70 = .ok (.iadd, 1) := by decide +kernel
theorem dR_number_71 : decode bR_number 71 = .ok (.putfield 58, 3) := by decide +kernel
theorem dR_number_74 : decode bR_number 74 = .ok (.iinc 3 1, 3) := by decide +kernel
theorem dR_number_77 : decode bR_number 77 = .ok (.goto (-38), 3) := by decide +kernel
theorem dR_number_80 : decode bR_number 80 = .ok (.iload_n 2, 1) := by decide +kernel
theorem dR_number_81 : decode bR_number 81 = .ok (.ifCond .ne 8, 3) := by decide +kernel
theorem dR_number_84 : decode bR_number 84 = .ok (.aload_n 0, 1) := by decide +kernel
theorem dR_number_85 : decode bR_number 85 = .ok (.iload_n 1, 1) := by decide +kernel
theorem dR_number_86 : decode bR_number 86 = .ok (.putfield 61, 3) := by decide +kernel
theorem dR_number_89 : decode bR_number 89 = .ok (.iload_n 2, 1) := by decide +kernel
theorem dR_number_90 : decode bR_number 90 = .ok (.ireturn, 1) := by decide +kernel
theorem dR_read_0 : decode bR_read 0 = .ok (.aload_n 0, 1) := by decide +kernel
theorem dR_read_1 : decode bR_read 1 = .ok (.iconst 0, 1) := by decide +kernel
theorem dR_read_2 : decode bR_read 2 = .ok (.putfield 52, 3) := by decide +kernel
theorem dR_read_5 : decode bR_read 5 = .ok (.aload_n 0, 1) := by decide +kernel
theorem dR_read_6 : decode bR_read 6 = .ok (.iconst 0, 1) := by decide +kernel
theorem dR_read_7 : decode bR_read 7 = .ok (.putfield 58, 3) := by decide +kernel
theorem dR_read_10 : decode bR_read 10 = .ok (.aload_n 0, 1) := by decide +kernel
theorem dR_read_11 : decode bR_read 11 = .ok (.iconst (-1), 1) := by decide +kernel
theorem dR_read_12 : decode bR_read 12 = .ok (.putfield 61, 3) := by decide +kernel
theorem dR_read_15 : decode bR_read 15 = .ok (.iconst 0, 1) := by decide +kernel
theorem dR_read_16 : decode bR_read 16 = .ok (.istore_n 1, 1) := by decide +kernel
theorem dR_read_17 : decode bR_read 17 = .ok (.iconst 1, 1) := by decide +kernel
theorem dR_read_18 : decode bR_read 18 = .ok (.istore_n 2, 1) := by decide +kernel
theorem dR_read_19 : decode bR_read 19 = .ok (.iload_n 2, 1) := by decide +kernel
theorem dR_read_20 : decode bR_read 20 = .ok (.ifCond .eq 175, 3) := by decide +kernel
theorem dR_read_23 : decode bR_read 23 = .ok (.aload_n 0, 1) := by decide +kernel
theorem dR_read_24 : decode bR_read 24 = .ok (.getfield 61, 3) := by decide +kernel
theorem dR_read_27 : decode bR_read 27 = .ok (.iconst (-1), 1) := by decide +kernel
theorem dR_read_28 : decode bR_read 28 = .ok (.if_icmp .ne 167, 3) := by decide +kernel
theorem dR_read_31 : decode bR_read 31 = .ok (.aload_n 0, 1) := by decide +kernel
theorem dR_read_32 : decode bR_read 32 = .ok (.invokevirtual 68, 3) := by decide +kernel
theorem dR_read_35 : decode bR_read 35 = .ok (.invokestatic 84, 3) := by decide +kernel
theorem dR_read_38 : decode bR_read 38 = .ok (.istore_n 3, 1) := by decide +kernel
theorem dR_read_39 : decode bR_read 39 = .ok (.aload_n 0, 1) := by decide +kernel
theorem dR_read_40 : decode bR_read 40 = .ok (.iload_n 3, 1) := by decide +kernel
theorem dR_read_41 : decode bR_read 41 = .ok (.iconst (-1), 1) := by decide +kernel
theorem dR_read_42 : decode bR_read 42 = .ok (.if_icmp .eq 7, 3) := by decide +kernel
theorem dR_read_45 : decode bR_read 45 = .ok (.iconst 1, 1) := by decide +kernel
theorem dR_read_46 : decode bR_read 46 = .ok (.goto 4, 3) := by decide +kernel
theorem dR_read_49 : decode bR_read 49 = .ok (.iconst 0, 1) := by decide +kernel
theorem dR_read_50 : decode bR_read 50 = .ok (.invokevirtual 76, 3) := by decide +kernel
theorem dR_read_53 : decode bR_read 53 = .ok (.aload_n 0, 1) := by decide +kernel
theorem dR_read_54 : decode bR_read 54 = .ok (.aload_n 0, 1) := by decide +kernel
theorem dR_read_55 : decode bR_read 55 = .ok (.invokevirtual 68, 3) := by decide +kernel
theorem dR_read_58 : decode bR_read 58 = .ok (.bipush 32, 2) := by decide +kernel
theorem dR_read_60 : decode bR_read 60 = .ok (.if_icmp .ne 7, 3) := by decide +kernel
theorem dR_read_63 : decode bR_read 63 = .ok (.iconst 1, 1) := by decide +kernel
theorem dR_read_64 : decode bR_read 64 = .ok (.goto 4, 3) := by decide +kernel
theorem dR_read_67 : decode bR_read 67 = .ok (.iconst 0, 1) := by decide +kernel
theorem dR_read_68 : decode bR_read 68 = .ok (.invokevirtual 76, 3) := by decide +kernel
theorem dR_read_71 : decode bR_read 71 = .ok (.aload_n 0, 1) := by decide +kernel
theorem dR_read_72 : decode bR_read 72 = .ok (.invokevirtual 87, 3) := by decide +kernel
theorem dR_read_75 : decode bR_read 75 = .ok (.istore 4, 2) := by decide +kernel
theorem dR_read_77 : decode bR_read 77 = .ok (.aload_n 0, 1) := by decide +kernel
theorem dR_read_78 : decode bR_read 78 = .ok (.aload_n 0, 1) := by decide +kernel
theorem dR_read_79 : decode bR_read 79 = .ok (.invokevirtual 68, 3) := by decide +kernel
theorem dR_read_82 : decode bR_read 82 = .ok (.bipush 32, 2) := by decide +kernel
theorem dR_read_84 : decode bR_read 84 = .ok (.if_icmp .ne 7, 3) := by decide +kernel
theorem dR_read_87 : decode bR_read 87 = .ok (.iconst 1, 1) := by decide +kernel
theorem dR_read_88 : decode bR_read 88 = .ok (.goto 4, 3) := by decide +kernel
theorem dR_read_91 : decode bR_read 91 = .ok (.iconst 0, 1) := by decide +kernel
theorem dR_read_92 : decode bR_read 92 = .ok (.invokevirtual 76, 3) := by decide +kernel
theorem dR_read_95 : decode bR_read 95 = .ok (.aload_n 0, 1) := by decide +kernel
theorem dR_read_96 : decode bR_read 96 = .ok (.getfield 61, 3) := by decide +kernel
theorem dR_read_99 : decode bR_read 99 = .ok (.iconst (-1), 1) := by decide +kernel
theorem dR_read_100 : decode bR_read 100 = .ok (.if_icmp .ne 10, 3) := by decide +kernel
theorem dR_read_103 : decode bR_read 103 = .ok (.aload_n 0, 1) := by decide +kernel
theorem dR_read_104 : decode bR_read 104 = .ok (.invokevirtual 90, 3) := by decide +kernel
theorem dR_read_107 : decode bR_read 107 = .ok (.goto 4, 3) := by decide +kernel
theorem dR_read_110 : decode bR_read 110 = .ok (.iconst 0, 1) := by decide +kernel
theorem dR_read_111 : decode bR_read 111 = .ok (.istore 5, 2) := by decide +kernel
theorem dR_read_113 : decode bR_read 113 = .ok (.aload_n 0, 1) := by decide +kernel
theorem dR_read_114 : decode bR_read 114 = .ok (.getfield 13, 3) := by decide +kernel
theorem dR_read_117 : decode bR_read 117 = .ok (.iconst 3, 1) := by decide +kernel
theorem dR_read_118 : decode bR_read 118 = .ok (.iload_n 1, 1) := by decide +kernel
theorem dR_read_119 : decode bR_read 119 = .ok (.imul, 1) := by decide +kernel
theorem dR_read_120 : decode bR_read 120 = .ok (.iload_n 3, 1) := by decide +kernel
theorem dR_read_121 : decode bR_read 121 = .ok (.iastore, 1) := by decide +kernel
theorem dR_read_122 : decode bR_read 122 = .ok (.aload_n 0, 1) := by decide +kernel
theorem dR_read_123 : decode bR_read 123 = .ok (.getfield 13, 3) := by decide +kernel
theorem dR_read_126 : decode bR_read 126 = .ok (.iconst 3, 1) := by decide +kernel
theorem dR_read_127 : decode bR_read 127 = .ok (.iload_n 1, 1) := by decide +kernel
theorem dR_read_128 : decode bR_read 128 = .ok (.imul, 1) := by decide +kernel
theorem dR_read_129 : decode bR_read 129 = .ok (.iconst 1, 1) := by decide +kernel
theorem dR_read_130 : decode bR_read 130 = .ok (.iadd, 1) := by decide +kernel
theorem dR_read_131 : decode bR_read 131 = .ok (.iload 4, 2) := by decide +kernel
theorem dR_read_133 : decode bR_read 133 = .ok (.iastore, 1) := by decide +kernel
theorem dR_read_134 : decode bR_read 134 = .ok (.aload_n 0, 1) := by decide +kernel
theorem dR_read_135 : decode bR_read 135 = .ok (.getfield 13, 3) := by decide +kernel
theorem dR_read_138 : decode bR_read 138 = .ok (.iconst 3, 1) := by decide +kernel
theorem dR_read_139 : decode bR_read 139 = .ok (.iload_n 1, 1) := by decide +kernel
theorem dR_read_140 : decode bR_read 140 = .ok (.imul, 1) := by decide +kernel
theorem dR_read_141 : decode bR_read 141 = .ok (.iconst 2, 1) := by decide +kernel
theorem dR_read_142 : decode bR_read 142 = .ok (.iadd, 1) := by decide +kernel
theorem dR_read_143 : decode bR_read 143 = .ok (.iload 5, 2) := by decide +kernel
theorem dR_read_145 : decode bR_read 145 = .ok (.iastore, 1) := by decide +kernel
theorem dR_read_146 : decode bR_read 146 = .ok (.iinc 1 1, 3) := by decide +kernel
theorem dR_read_149 : decode bR_read 149 = .ok (.iload_n 1, 1) := by decide +kernel
theorem dR_read_150 : decode bR_read 150 = .ok (.bipush 16, 2) := by decide +kernel
theorem dR_read_152 : decode bR_read 152 = .ok (.if_icmp .ge 16, 3) := by decide +kernel
theorem dR_read_155 : decode bR_read 155 = .ok (.aload_n 0, 1) := by decide +kernel
theorem dR_read_156 : decode bR_read 156 = .ok (.invokevirtual 68, 3) := by decide +kernel
theorem dR_read_159 : decode bR_read 159 = .ok (.bipush 59, 2) := by decide +kernel
theorem dR_read_161 : decode bR_read 161 = .ok (.if_icmp .ne 7, 3) := by decide +kernel
theorem dR_read_164 : decode bR_read 164 = .ok (.iconst 1, 1) := by decide +kernel
theorem dR_read_165 : decode bR_read 165 = .ok (.goto 4, 3) := by decide +kernel
theorem dR_read_168 : decode bR_read 168 = .ok (.iconst 0, 1) := by decide +kernel
theorem dR_read_169 : decode bR_read 169 = .ok (.istore_n 2, 1) := by decide +kernel
theorem dR_read_170 : decode bR_read 170 = .ok (.iload_n 2, 1) := by decide +kernel
theorem dR_read_171 : decode bR_read 171 = .ok (.ifCond .eq 21, 3) := by decide +kernel
theorem dR_read_174 : decode bR_read 174 = .ok (.aload_n 0, 1) := by decide +kernel
theorem dR_read_175 : decode bR_read 175 = .ok (.getfield 61, 3) := by decide +kernel
theorem dR_read_178 : decode bR_read 178 = .ok (.iconst (-1), 1) := by decide +kernel
theorem dR_read_179 : decode bR_read 179 = .ok (.if_icmp .ne 13, 3) := by decide +kernel
theorem dR_read_182 : decode bR_read 182 = .ok (.aload_n 0, 1) := by decide +kernel
theorem dR_read_183 : decode bR_read 183 = .ok (.dup, 1) := by decide +kernel
theorem dR_read_184 : decode bR_read 184 = .ok (.getfield 58, 3) := by decide +kernel
theorem dR_read_187 : decode bR_read 187 = .ok (.iconst 1, 1) := by decide +kernel
theorem dR_read_188 : decode bR_read 188 = .ok (.iadd, 1) := by decide +kernel
theorem dR_read_189 : decode bR_read 189 = .ok (.putfield 58, 3) := by decide +kernel
theorem dR_read_192 : decode bR_read 192 = .ok (.goto (-173), 3) := by decide +kernel
theorem dR_read_195 : decode bR_read 195 = .ok (.aload_n 0, 1) := by decide +kernel
theorem dR_read_196 : decode bR_read 196 = .ok (.getfield 61, 3) := by decide +kernel
theorem dR_read_199 : decode bR_read 199 = .ok (.iconst (-1), 1) := by decide +kernel
theorem dR_read_200 : decode bR_read 200 = .ok (.if_icmp .ne 22, 3) := by decide +kernel
theorem dR_read_203 : decode bR_read 203 = .ok (.aload_n 0, 1) := by decide +kernel
theorem dR_read_204 : decode bR_read 204 = .ok (.getfield 58, 3) := by decide +kernel
theorem dR_read_207 : decode bR_read 207 = .ok (.aload_n 0, 1) := by decide +kernel
theorem dR_read_208 : decode bR_read 208 = .ok (.getfield 55, 3) := by decide +kernel
theorem dR_read_211 : decode bR_read 211 = .ok (.if_icmp .ge 11, 3) := by decide +kernel
theorem dR_read_214 : decode bR_read 214 = .ok (.aload_n 0, 1) := by decide +kernel
theorem dR_read_215 : decode bR_read 215 = .ok (.aload_n 0, 1) := by decide +kernel
theorem dR_read_216 : decode bR_read 216 = .ok (.getfield 58, 3) := by decide +kernel
theorem dR_read_219 : decode bR_read 219 = .ok (.putfield 61, 3) := by decide +kernel
theorem dR_read_222 : decode bR_read 222 = .ok (.aload_n 0, 1) := by decide +kernel
theorem dR_read_223 : decode bR_read 223 = .ok (.iconst 0, 1) := by decide +kernel
theorem dR_read_224 : decode bR_read 224 = .ok (.putfield 55, 3) := by decide +kernel
theorem dR_read_227 : decode bR_read 227 = .ok (.aload_n 0, 1) := by decide +kernel
theorem dR_read_228 : decode bR_read 228 = .ok (.getfield 61, 3) := by decide +kernel
theorem dR_read_231 : decode bR_read 231 = .ok (.iconst (-1), 1) := by decide +kernel
theorem dR_read_232 : decode bR_read 232 = .ok (.if_icmp .eq 10, 3) := by decide +kernel
theorem dR_read_235 : decode bR_read 235 = .ok (.iconst (-1), 1) := by decide +kernel
theorem dR_read_236 : decode bR_read 236 = .ok (.aload_n 0, 1) := by decide +kernel
theorem dR_read_237 : decode bR_read 237 = .ok (.getfield 61, 3) := by decide +kernel
theorem dR_read_240 : decode bR_read 240 = .ok (.isub, 1) := by decide +kernel
theorem dR_read_241 : decode bR_read 241 = .ok (.ireturn, 1) := by decide +kernel
theorem dR_read_242 : decode bR_read 242 = .ok (.iconst 0, 1) := by decide +kernel
theorem dR_read_243 : decode bR_read 243 = .ok (.istore_n 3, 1) := by decide +kernel
theorem dR_read_244 : decode bR_read 244 = .ok (.iload_n 3, 1) := by decide +kernel
theorem dR_read_245 : decode bR_read 245 = .ok (.iload_n 1, 1) := by decide +kernel
theorem dR_read_246 : decode bR_read 246 = .ok (.if_icmp .ge 46, 3) := by decide +kernel
theorem dR_read_249 : decode bR_read 249 = .ok (.aload_n 0, 1) := by decide +kernel
theorem dR_read_250 : decode bR_read 250 = .ok (.getfield 16, 3) := by decide +kernel
theorem dR_read_253 : decode bR_read 253 = .ok (.bipush 7, 2) := by decide +kernel
theorem dR_read_255 : decode bR_read 255 = .ok (.aload_n 0, 1) := by decide +kernel
theorem dR_read_256 : decode bR_read 256 = .ok (.getfield 13, 3) := by decide +kernel
theorem dR_read_259 : decode bR_read 259 = .ok (.iconst 3, 1) := by decide +kernel
theorem dR_read_260 : decode bR_read 260 = .ok (.iload_n 3, 1) := by decide +kernel
theorem dR_read_261 : decode bR_read 261 = .ok (.imul, 1) := by decide +kernel
theorem dR_read_262 : decode bR_read 262 = .ok (.iaload, 1) := by decide +kernel
theorem dR_read_263 : decode bR_read 263 = .ok (.imul, 1) := by decide +kernel
theorem dR_read_264 : decode bR_read 264 = .ok (.aload_n 0, 1) := by decide +kernel
theorem dR_read_265 : decode bR_read 265 = .ok (.getfield 13, 3) := by decide +kernel
theorem dR_read_268 : decode bR_read 268 = .ok (.iconst 3, 1) := by decide +kernel
theorem dR_read_269 : decode bR_read 269 = .ok (.iload_n 3, 1) := by decide +kernel
theorem dR_read_270 : decode bR_read 270 = .ok (.imul, 1) := by decide +kernel
theorem dR_read_271 : decode bR_read 271 = .ok (.iconst 1, 1) := by decide +kernel
theorem dR_read_272 : decode bR_read 272 = .ok (.iadd, 1) := by decide +kernel
theorem dR_read_273 : decode bR_read 273 = .ok (.iaload, 1) := by decide +kernel
theorem dR_read_274 : decode bR_read 274 = .ok (.iadd, 1) := by decide +kernel
theorem dR_read_275 : decode bR_read 275 = .ok (.aload_n 0, 1) := by decide +kernel
theorem dR_read_276 : decode bR_read 276 = .ok (.getfield 13, 3) := by decide +kernel
theorem dR_read_279 : decode bR_read 279 = .ok (.iconst 3, 1) := by decide +kernel
theorem dR_read_280 : decode bR_read 280 = .ok (.iload_n 3, 1) := by decide +kernel
theorem dR_read_281 : decode bR_read 281 = .ok (.imul, 1) := by decide +kernel
theorem dR_read_282 : decode bR_read 282 = .ok (.iconst 2, 1) := by decide +kernel
theorem dR_read_283 : decode bR_read 283 = .ok (.iadd, 1) := by decide +kernel
theorem dR_read_284 : decode bR_read 284 = .ok (.iaload, 1) := by decide +kernel
theorem dR_read_285 : decode bR_read 285 = .ok (.iastore, 1) := by decide +kernel
theorem dR_read_286 : decode bR_read 286 = .ok (.iinc 3 1, 3) := by decide +kernel
theorem dR_read_289 : decode bR_read 289 = .ok (.goto (-45), 3) := by decide +kernel
theorem dR_read_292 : decode bR_read 292 = .ok (.iload_n 1, 1) := by decide +kernel
theorem dR_read_293 : decode bR_read 293 = .ok (.ireturn, 1) := by decide +kernel
theorem dR_rule_0 : decode bR_rule 0 = .ok (.aload_n 0, 1) := by decide +kernel
theorem dR_rule_1 : decode bR_rule 1 = .ok (.iload_n 1, 1) := by decide +kernel
theorem dR_rule_2 : decode bR_rule 2 = .ok (.invokestatic 93, 3) := by decide +kernel
theorem dR_rule_5 : decode bR_rule 5 = .ok (.ifCond .eq 19, 3) := by decide +kernel
theorem dR_rule_8 : decode bR_rule 8 = .ok (.iload_n 2, 1) := by decide +kernel
theorem dR_rule_9 : decode bR_rule 9 = .ok (.i2l, 1) := by decide +kernel
theorem dR_rule_10 : decode bR_rule 10 = .ok (.lconst 0, 1) := by decide +kernel
theorem dR_rule_11 : decode bR_rule 11 = .ok (.ldc2_w 97, 3) := by decide +kernel
theorem dR_rule_14 : decode bR_rule 14 = .ok (.invokestatic 99, 3) := by decide +kernel
theorem dR_rule_17 : decode bR_rule 17 = .ok (.ifCond .eq 7, 3) := by decide +kernel
theorem dR_rule_20 : decode bR_rule 20 = .ok (.iconst 0, 1) := by decide +kernel
theorem dR_rule_21 : decode bR_rule 21 = .ok (.goto 4, 3) := by decide +kernel
theorem dR_rule_24 : decode bR_rule 24 = .ok (.iconst 1, 1) := by decide +kernel
theorem dR_rule_25 : decode bR_rule 25 = .ok (.putfield 52, 3) := by decide +kernel
theorem dR_rule_28 : decode bR_rule 28 = .ok (.aload_n 0, 1) := by decide +kernel
theorem dR_rule_29 : decode bR_rule 29 = .ok (.getfield 52, 3) := by decide +kernel
theorem dR_rule_32 : decode bR_rule 32 = .ok (.ifCond .le 7, 3) := by decide +kernel
theorem dR_rule_35 : decode bR_rule 35 = .ok (.iconst 0, 1) := by decide +kernel
theorem dR_rule_36 : decode bR_rule 36 = .ok (.goto 14, 3) := by decide +kernel
theorem dR_rule_39 : decode bR_rule 39 = .ok (.aload_n 0, 1) := by decide +kernel
theorem dR_rule_40 : decode bR_rule 40 = .ok (.getfield 16, 3) := by decide +kernel
theorem dR_rule_43 : decode bR_rule 43 = .ok (.bipush 7, 2) := by decide +kernel
theorem dR_rule_45 : decode bR_rule 45 = .ok (.iload_n 1, 1) := by decide +kernel
theorem dR_rule_46 : decode bR_rule 46 = .ok (.imul, 1) := by decide +kernel
theorem dR_rule_47 : decode bR_rule 47 = .ok (.iload_n 2, 1) := by decide +kernel
theorem dR_rule_48 : decode bR_rule 48 = .ok (.iadd, 1) := by decide +kernel
theorem dR_rule_49 : decode bR_rule 49 = .ok (.iaload, 1) := by decide +kernel
theorem dR_rule_50 : decode bR_rule 50 = .ok (.ireturn, 1) := by decide +kernel
theorem dR_set_0 : decode bR_set 0 = .ok (.aload_n 0, 1) := by decide +kernel
theorem dR_set_1 : decode bR_set 1 = .ok (.iload_n 1, 1) := by decide +kernel
theorem dR_set_2 : decode bR_set 2 = .ok (.ifCond .lt 8, 3) := by decide +kernel
theorem dR_set_5 : decode bR_set 5 = .ok (.iload_n 1, 1) := by decide +kernel
theorem dR_set_6 : decode bR_set 6 = .ok (.iconst 1, 1) := by decide +kernel
theorem dR_set_7 : decode bR_set 7 = .ok (.if_icmp .le 7, 3) := by decide +kernel
theorem dR_set_10 : decode bR_set 10 = .ok (.iconst 1, 1) := by decide +kernel
theorem dR_set_11 : decode bR_set 11 = .ok (.goto 23, 3) := by decide +kernel
theorem dR_set_14 : decode bR_set 14 = .ok (.iload_n 2, 1) := by decide +kernel
theorem dR_set_15 : decode bR_set 15 = .ok (.i2l, 1) := by decide +kernel
theorem dR_set_16 : decode bR_set 16 = .ok (.lconst 1, 1) := by decide +kernel
theorem dR_set_17 : decode bR_set 17 = .ok (.iload_n 1, 1) := by decide +kernel
theorem dR_set_18 : decode bR_set 18 = .ok (.i2l, 1) := by decide +kernel
theorem dR_set_19 : decode bR_set 19 = .ok (.lsub, 1) := by decide +kernel
theorem dR_set_20 : decode bR_set 20 = .ok (.ldc2_w 22, 3) := by decide +kernel
theorem dR_set_23 : decode bR_set 23 = .ok (.invokestatic 99, 3) := by decide +kernel
theorem dR_set_26 : decode bR_set 26 = .ok (.ifCond .eq 7, 3) := by decide +kernel
theorem dR_set_29 : decode bR_set 29 = .ok (.iconst 0, 1) := by decide +kernel
theorem dR_set_30 : decode bR_set 30 = .ok (.goto 4, 3) := by decide +kernel
theorem dR_set_33 : decode bR_set 33 = .ok (.iconst 2, 1) := by decide +kernel
theorem dR_set_34 : decode bR_set 34 = .ok (.putfield 52, 3) := by decide +kernel
theorem dR_set_37 : decode bR_set 37 = .ok (.aload_n 0, 1) := by decide +kernel
theorem dR_set_38 : decode bR_set 38 = .ok (.getfield 52, 3) := by decide +kernel
theorem dR_set_41 : decode bR_set 41 = .ok (.ifCond .ne 16, 3) := by decide +kernel
theorem dR_set_44 : decode bR_set 44 = .ok (.iload_n 1, 1) := by decide +kernel
theorem dR_set_45 : decode bR_set 45 = .ok (.ifCond .ne 12, 3) := by decide +kernel
theorem dR_set_48 : decode bR_set 48 = .ok (.aload_n 0, 1) := by decide +kernel
theorem dR_set_49 : decode bR_set 49 = .ok (.iload_n 2, 1) := by decide +kernel
theorem dR_set_50 : decode bR_set 50 = .ok (.i2l, 1) := by decide +kernel
theorem dR_set_51 : decode bR_set 51 = .ok (.putfield 24, 3) := by decide +kernel
theorem dR_set_54 : decode bR_set 54 = .ok (.goto 16, 3) := by decide +kernel
theorem dR_set_57 : decode bR_set 57 = .ok (.aload_n 0, 1) := by decide +kernel
theorem dR_set_58 : decode bR_set 58 = .ok (.getfield 52, 3) := by decide +kernel
theorem dR_set_61 : decode bR_set 61 = .ok (.ifCond .ne 9, 3) := by decide +kernel
theorem dR_set_64 : decode bR_set 64 = .ok (.aload_n 0, 1) := by decide +kernel
theorem dR_set_65 : decode bR_set 65 = .ok (.iload_n 2, 1) := by decide +kernel
theorem dR_set_66 : decode bR_set 66 = .ok (.i2l, 1) := by decide +kernel
theorem dR_set_67 : decode bR_set 67 = .ok (.putfield 30, 3) := by decide +kernel
theorem dR_set_70 : decode bR_set 70 = .ok (.return_, 1) := by decide +kernel
theorem dR_formula_0 : decode bR_formula 0 = .ok (.aload_n 0, 1) := by decide +kernel
theorem dR_formula_1 : decode bR_formula 1 = .ok (.getfield 16, 3) := by decide +kernel
theorem dR_formula_4 : decode bR_formula 4 = .ok (.bipush 7, 2) := by decide +kernel
theorem dR_formula_6 : decode bR_formula 6 = .ok (.iload_n 1, 1) := by decide +kernel
theorem dR_formula_7 : decode bR_formula 7 = .ok (.imul, 1) := by decide +kernel
theorem dR_formula_8 : decode bR_formula 8 = .ok (.iaload, 1) := by decide +kernel
theorem dR_formula_9 : decode bR_formula 9 = .ok (.i2l, 1) := by decide +kernel
theorem dR_formula_10 : decode bR_formula 10 = .ok (.lstore 7, 2) := by decide +kernel
theorem dR_formula_12 : decode bR_formula 12 = .ok (.aload_n 0, 1) := by decide +kernel
theorem dR_formula_13 : decode bR_formula 13 = .ok (.getfield 16, 3) := by decide +kernel
theorem dR_formula_16 : decode bR_formula 16 = .ok (.bipush 7, 2) := by decide +kernel
theorem dR_formula_18 : decode bR_formula 18 = .ok (.iload_n 1, 1) := by decide +kernel
theorem dR_formula_19 : decode bR_formula 19 = .ok (.imul, 1) := by decide +kernel
theorem dR_formula_20 : decode bR_formula 20 = .ok (.iconst 1, 1) := by decide +kernel
theorem dR_formula_21 : decode bR_formula 21 = .ok (.iadd, 1) := by decide +kernel
theorem dR_formula_22 : decode bR_formula 22 = .ok (.iaload, 1) := by decide +kernel
theorem dR_formula_23 : decode bR_formula 23 = .ok (.i2l, 1) := by decide +kernel
theorem dR_formula_24 : decode bR_formula 24 = .ok (.lstore 9, 2) := by decide +kernel
theorem dR_formula_26 : decode bR_formula 26 = .ok (.iload_n 2, 1) := by decide +kernel
theorem dR_formula_27 : decode bR_formula 27 = .ok (.ifCond .ne 13, 3) := by decide +kernel
theorem dR_formula_30 : decode bR_formula 30 = .ok (.lload 9, 2) := by decide +kernel
theorem dR_formula_32 : decode bR_formula 32 = .ok (.lload_n 3, 1) := by decide +kernel
theorem dR_formula_33 : decode bR_formula 33 = .ok (.lmul, 1) := by decide +kernel
theorem dR_formula_34 : decode bR_formula 34 = .ok (.lload 7, 2) := by decide +kernel
theorem dR_formula_36 : decode bR_formula 36 = .ok (.lmul, 1) := by decide +kernel
theorem dR_formula_37 : decode bR_formula 37 = .ok (.goto 53, 3) := by decide +kernel
theorem dR_formula_40 : decode bR_formula 40 = .ok (.iload_n 2, 1) := by decide +kernel
theorem dR_formula_41 : decode bR_formula 41 = .ok (.iconst 1, 1) := by decide +kernel
theorem dR_formula_42 : decode bR_formula 42 = .ok (.if_icmp .ne 14, 3) := by decide +kernel
theorem dR_formula_45 : decode bR_formula 45 = .ok (.lload 9, 2) := by decide +kernel
theorem dR_formula_47 : decode bR_formula 47 = .ok (.lload 5, 2) := by decide +kernel
theorem dR_formula_49 : decode bR_formula 49 = .ok (.lmul, 1) := by decide +kernel
theorem dR_formula_50 : decode bR_formula 50 = .ok (.lload 7, 2) := by decide +kernel
theorem dR_formula_52 : decode bR_formula 52 = .ok (.lmul, 1) := by decide +kernel
theorem dR_formula_53 : decode bR_formula 53 = .ok (.goto 37, 3) := by decide +kernel
theorem dR_formula_56 : decode bR_formula 56 = .ok (.iload_n 2, 1) := by decide +kernel
theorem dR_formula_57 : decode bR_formula 57 = .ok (.iconst 2, 1) := by decide +kernel
theorem dR_formula_58 : decode bR_formula 58 = .ok (.if_icmp .ne 20, 3) := by decide +kernel
theorem dR_formula_61 : decode bR_formula 61 = .ok (.lload 9, 2) := by decide +kernel
theorem dR_formula_63 : decode bR_formula 63 = .ok (.lload_n 3, 1) := by decide +kernel
theorem dR_formula_64 : decode bR_formula 64 = .ok (.lload 5, 2) := by decide +kernel
theorem dR_formula_66 : decode bR_formula 66 = .ok (.ladd, 1) := by decide +kernel
theorem dR_formula_67 : decode bR_formula 67 = .ok (.lmul, 1) := by decide +kernel
theorem dR_formula_68 : decode bR_formula 68 = .ok (.lload 7, 2) := by decide +kernel
theorem dR_formula_70 : decode bR_formula 70 = .ok (.lmul, 1) := by decide +kernel
theorem dR_formula_71 : decode bR_formula 71 = .ok (.ldc2_w 28, 3) := by decide +kernel
theorem dR_formula_74 : decode bR_formula 74 = .ok (.ldiv, 1) := by decide +kernel
theorem dR_formula_75 : decode bR_formula 75 = .ok (.goto 15, 3) := by decide +kernel
theorem dR_formula_78 : decode bR_formula 78 = .ok (.lload 9, 2) := by decide +kernel
theorem dR_formula_80 : decode bR_formula 80 = .ok (.lload 7, 2) := by decide +kernel
theorem dR_formula_82 : decode bR_formula 82 = .ok (.lmul, 1) := by decide +kernel
theorem dR_formula_83 : decode bR_formula 83 = .ok (.lload 7, 2) := by decide +kernel
theorem dR_formula_85 : decode bR_formula 85 = .ok (.lmul, 1) := by decide +kernel
theorem dR_formula_86 : decode bR_formula 86 = .ok (.ldc2_w 103, 3) := by decide +kernel
theorem dR_formula_89 : decode bR_formula 89 = .ok (.lmul, 1) := by decide +kernel
theorem dR_formula_90 : decode bR_formula 90 = .ok (.lreturn, 1) := by decide +kernel
theorem dR_holds_0 : decode bR_holds 0 = .ok (.iload_n 2, 1) := by decide +kernel
theorem dR_holds_1 : decode bR_holds 1 = .ok (.i2l, 1) := by decide +kernel
theorem dR_holds_2 : decode bR_holds 2 = .ok (.lconst 1, 1) := by decide +kernel
theorem dR_holds_3 : decode bR_holds 3 = .ok (.ldc2_w 105, 3) := by decide +kernel
theorem dR_holds_6 : decode bR_holds 6 = .ok (.invokestatic 99, 3) := by decide +kernel
theorem dR_holds_9 : decode bR_holds 9 = .ok (.ifCond .eq 32, 3) := by decide +kernel
theorem dR_holds_12 : decode bR_holds 12 = .ok (.iload_n 3, 1) := by decide +kernel
theorem dR_holds_13 : decode bR_holds 13 = .ok (.i2l, 1) := by decide +kernel
theorem dR_holds_14 : decode bR_holds 14 = .ok (.lconst 1, 1) := by decide +kernel
theorem dR_holds_15 : decode bR_holds 15 = .ok (.ldc2_w 105, 3) := by decide +kernel
theorem dR_holds_18 : decode bR_holds 18 = .ok (.invokestatic 99, 3) := by decide +kernel
theorem dR_holds_21 : decode bR_holds 21 = .ok (.ifCond .eq 20, 3) := by decide +kernel
theorem dR_holds_24 : decode bR_holds 24 = .ok (.iload 4, 2) := by decide +kernel
theorem dR_holds_26 : decode bR_holds 26 = .ok (.i2l, 1) := by decide +kernel
theorem dR_holds_27 : decode bR_holds 27 = .ok (.lconst 0, 1) := by decide +kernel
theorem dR_holds_28 : decode bR_holds 28 = .ok (.ldc2_w 107, 3) := by decide +kernel
theorem dR_holds_31 : decode bR_holds 31 = .ok (.invokestatic 99, 3) := by decide +kernel
theorem dR_holds_34 : decode bR_holds 34 = .ok (.ifCond .eq 7, 3) := by decide +kernel
theorem dR_holds_37 : decode bR_holds 37 = .ok (.iconst 1, 1) := by decide +kernel
theorem dR_holds_38 : decode bR_holds 38 = .ok (.goto 4, 3) := by decide +kernel
theorem dR_holds_41 : decode bR_holds 41 = .ok (.iconst 0, 1) := by decide +kernel
theorem dR_holds_42 : decode bR_holds 42 = .ok (.istore 6, 2) := by decide +kernel
theorem dR_holds_44 : decode bR_holds 44 = .ok (.aload_n 0, 1) := by decide +kernel
theorem dR_holds_45 : decode bR_holds 45 = .ok (.iload_n 1, 1) := by decide +kernel
theorem dR_holds_46 : decode bR_holds 46 = .ok (.invokestatic 93, 3) := by decide +kernel
theorem dR_holds_49 : decode bR_holds 49 = .ok (.ifCond .eq 14, 3) := by decide +kernel
theorem dR_holds_52 : decode bR_holds 52 = .ok (.iload 5, 2) := by decide +kernel
theorem dR_holds_54 : decode bR_holds 54 = .ok (.ifCond .lt 9, 3) := by decide +kernel
theorem dR_holds_57 : decode bR_holds 57 = .ok (.iload 5, 2) := by decide +kernel
theorem dR_holds_59 : decode bR_holds 59 = .ok (.iconst 1, 1) := by decide +kernel
theorem dR_holds_60 : decode bR_holds 60 = .ok (.if_icmp .le 7, 3) := by decide +kernel
theorem dR_holds_63 : decode bR_holds 63 = .ok (.iconst 1, 1) := by decide +kernel
theorem dR_holds_64 : decode bR_holds 64 = .ok (.goto 13, 3) := by decide +kernel
theorem dR_holds_67 : decode bR_holds 67 = .ok (.iload 6, 2) := by decide +kernel
theorem dR_holds_69 : decode bR_holds 69 = .ok (.ifCond .eq 7, 3) := by decide +kernel
theorem dR_holds_72 : decode bR_holds 72 = .ok (.iconst 0, 1) := by decide +kernel
theorem dR_holds_73 : decode bR_holds 73 = .ok (.goto 4, 3) := by decide +kernel
theorem dR_holds_76 : decode bR_holds 76 = .ok (.iconst 2, 1) := by decide +kernel
theorem dR_holds_77 : decode bR_holds 77 = .ok (.putfield 52, 3) := by decide +kernel
theorem dR_holds_80 : decode bR_holds 80 = .ok (.aload_n 0, 1) := by decide +kernel
theorem dR_holds_81 : decode bR_holds 81 = .ok (.getfield 52, 3) := by decide +kernel
theorem dR_holds_84 : decode bR_holds 84 = .ok (.ifCond .le 5, 3) := by decide +kernel
theorem dR_holds_87 : decode bR_holds 87 = .ok (.lconst 0, 1) := by decide +kernel
theorem dR_holds_88 : decode bR_holds 88 = .ok (.lreturn, 1) := by decide +kernel
theorem dR_holds_89 : decode bR_holds 89 = .ok (.iconst 0, 1) := by decide +kernel
theorem dR_holds_90 : decode bR_holds 90 = .ok (.istore 7, 2) := by decide +kernel
