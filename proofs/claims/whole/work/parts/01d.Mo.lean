theorem dMo_init_0 : decode cMo_init 0 = .ok (.aload_n 0, 1) := by decide +kernel
theorem dMo_init_1 : decode cMo_init 1 = .ok (.invokespecial 1, 3) := by decide +kernel
theorem dMo_init_4 : decode cMo_init 4 = .ok (.aload_n 0, 1) := by decide +kernel
theorem dMo_init_5 : decode cMo_init 5 = .ok (.bipush 8, 2) := by decide +kernel
theorem dMo_init_7 : decode cMo_init 7 = .ok (.newarray .int, 2) := by decide +kernel
theorem dMo_init_9 : decode cMo_init 9 = .ok (.dup, 1) := by decide +kernel
theorem dMo_init_10 : decode cMo_init 10 = .ok (.iconst 0, 1) := by decide +kernel
theorem dMo_init_11 : decode cMo_init 11 = .ok (.bipush 40, 2) := by decide +kernel
theorem dMo_init_13 : decode cMo_init 13 = .ok (.iastore, 1) := by decide +kernel
theorem dMo_init_14 : decode cMo_init 14 = .ok (.dup, 1) := by decide +kernel
theorem dMo_init_15 : decode cMo_init 15 = .ok (.iconst 1, 1) := by decide +kernel
theorem dMo_init_16 : decode cMo_init 16 = .ok (.bipush 40, 2) := by decide +kernel
theorem dMo_init_18 : decode cMo_init 18 = .ok (.iastore, 1) := by decide +kernel
theorem dMo_init_19 : decode cMo_init 19 = .ok (.dup, 1) := by decide +kernel
theorem dMo_init_20 : decode cMo_init 20 = .ok (.iconst 2, 1) := by decide +kernel
theorem dMo_init_21 : decode cMo_init 21 = .ok (.bipush 40, 2) := by decide +kernel
theorem dMo_init_23 : decode cMo_init 23 = .ok (.iastore, 1) := by decide +kernel
theorem dMo_init_24 : decode cMo_init 24 = .ok (.dup, 1) := by decide +kernel
theorem dMo_init_25 : decode cMo_init 25 = .ok (.iconst 3, 1) := by decide +kernel
theorem dMo_init_26 : decode cMo_init 26 = .ok (.bipush 40, 2) := by decide +kernel
theorem dMo_init_28 : decode cMo_init 28 = .ok (.iastore, 1) := by decide +kernel
theorem dMo_init_29 : decode cMo_init 29 = .ok (.dup, 1) := by decide +kernel
theorem dMo_init_30 : decode cMo_init 30 = .ok (.iconst 4, 1) := by decide +kernel
theorem dMo_init_31 : decode cMo_init 31 = .ok (.bipush 40, 2) := by decide +kernel
theorem dMo_init_33 : decode cMo_init 33 = .ok (.iastore, 1) := by decide +kernel
theorem dMo_init_34 : decode cMo_init 34 = .ok (.dup, 1) := by decide +kernel
theorem dMo_init_35 : decode cMo_init 35 = .ok (.iconst 5, 1) := by decide +kernel
theorem dMo_init_36 : decode cMo_init 36 = .ok (.bipush 40, 2) := by decide +kernel
theorem dMo_init_38 : decode cMo_init 38 = .ok (.iastore, 1) := by decide +kernel
theorem dMo_init_39 : decode cMo_init 39 = .ok (.dup, 1) := by decide +kernel
theorem dMo_init_40 : decode cMo_init 40 = .ok (.bipush 6, 2) := by decide +kernel
theorem dMo_init_42 : decode cMo_init 42 = .ok (.bipush 40, 2) := by decide +kernel
theorem dMo_init_44 : decode cMo_init 44 = .ok (.iastore, 1) := by decide +kernel
theorem dMo_init_45 : decode cMo_init 45 = .ok (.dup, 1) := by decide +kernel
theorem dMo_init_46 : decode cMo_init 46 = .ok (.bipush 7, 2) := by decide +kernel
theorem dMo_init_48 : decode cMo_init 48 = .ok (.bipush 40, 2) := by decide +kernel
theorem dMo_init_50 : decode cMo_init 50 = .ok (.iastore, 1) := by decide +kernel
theorem dMo_init_51 : decode cMo_init 51 = .ok (.putfield 7, 3) := by decide +kernel
theorem dMo_init_54 : decode cMo_init 54 = .ok (.aload_n 0, 1) := by decide +kernel
theorem dMo_init_55 : decode cMo_init 55 = .ok (.bipush 8, 2) := by decide +kernel
theorem dMo_init_57 : decode cMo_init 57 = .ok (.newarray .int, 2) := by decide +kernel
theorem dMo_init_59 : decode cMo_init 59 = .ok (.putfield 13, 3) := by decide +kernel
theorem dMo_init_62 : decode cMo_init 62 = .ok (.aload_n 0, 1) := by decide +kernel
theorem dMo_init_63 : decode cMo_init 63 = .ok (.iconst 4, 1) := by decide +kernel
theorem dMo_init_64 : decode cMo_init 64 = .ok (.newarray .long, 2) := by decide +kernel
theorem dMo_init_66 : decode cMo_init 66 = .ok (.dup, 1) := by decide +kernel
theorem dMo_init_67 : decode cMo_init 67 = .ok (.iconst 0, 1) := by decide +kernel
theorem dMo_init_68 : decode cMo_init 68 = .ok (.ldc2_w 16, 3) := by decide +kernel
theorem dMo_init_71 : decode cMo_init 71 = .ok (.lastore, 1) := by decide +kernel
theorem dMo_init_72 : decode cMo_init 72 = .ok (.dup, 1) := by decide +kernel
theorem dMo_init_73 : decode cMo_init 73 = .ok (.iconst 1, 1) := by decide +kernel
theorem dMo_init_74 : decode cMo_init 74 = .ok (.ldc2_w 16, 3) := by decide +kernel
theorem dMo_init_77 : decode cMo_init 77 = .ok (.lastore, 1) := by decide +kernel
theorem dMo_init_78 : decode cMo_init 78 = .ok (.dup, 1) := by decide +kernel
theorem dMo_init_79 : decode cMo_init 79 = .ok (.iconst 2, 1) := by decide +kernel
theorem dMo_init_80 : decode cMo_init 80 = .ok (.ldc2_w 16, 3) := by decide +kernel
theorem dMo_init_83 : decode cMo_init 83 = .ok (.lastore, 1) := by decide +kernel
theorem dMo_init_84 : decode cMo_init 84 = .ok (.dup, 1) := by decide +kernel
theorem dMo_init_85 : decode cMo_init 85 = .ok (.iconst 3, 1) := by decide +kernel
theorem dMo_init_86 : decode cMo_init 86 = .ok (.ldc2_w 16, 3) := by decide +kernel
theorem dMo_init_89 : decode cMo_init 89 = .ok (.lastore, 1) := by decide +kernel
theorem dMo_init_90 : decode cMo_init 90 = .ok (.putfield 18, 3) := by decide +kernel
theorem dMo_init_93 : decode cMo_init 93 = .ok (.aload_n 0, 1) := by decide +kernel
theorem dMo_init_94 : decode cMo_init 94 = .ok (.iconst 4, 1) := by decide +kernel
theorem dMo_init_95 : decode cMo_init 95 = .ok (.newarray .boolean, 2) := by decide +kernel
theorem dMo_init_97 : decode cMo_init 97 = .ok (.putfield 22, 3) := by decide +kernel
theorem dMo_init_100 : decode cMo_init 100 = .ok (.aload_n 0, 1) := by decide +kernel
theorem dMo_init_101 : decode cMo_init 101 = .ok (.iconst 2, 1) := by decide +kernel
theorem dMo_init_102 : decode cMo_init 102 = .ok (.newarray .boolean, 2) := by decide +kernel
theorem dMo_init_104 : decode cMo_init 104 = .ok (.putfield 26, 3) := by decide +kernel
theorem dMo_init_107 : decode cMo_init 107 = .ok (.aload_n 0, 1) := by decide +kernel
theorem dMo_init_108 : decode cMo_init 108 = .ok (.iconst 4, 1) := by decide +kernel
theorem dMo_init_109 : decode cMo_init 109 = .ok (.newarray .long, 2) := by decide +kernel
theorem dMo_init_111 : decode cMo_init 111 = .ok (.putfield 29, 3) := by decide +kernel
theorem dMo_init_114 : decode cMo_init 114 = .ok (.aload_n 0, 1) := by decide +kernel
theorem dMo_init_115 : decode cMo_init 115 = .ok (.iconst 4, 1) := by decide +kernel
theorem dMo_init_116 : decode cMo_init 116 = .ok (.newarray .long, 2) := by decide +kernel
theorem dMo_init_118 : decode cMo_init 118 = .ok (.putfield 32, 3) := by decide +kernel
theorem dMo_init_121 : decode cMo_init 121 = .ok (.aload_n 0, 1) := by decide +kernel
theorem dMo_init_122 : decode cMo_init 122 = .ok (.iconst 4, 1) := by decide +kernel
theorem dMo_init_123 : decode cMo_init 123 = .ok (.newarray .long, 2) := by decide +kernel
theorem dMo_init_125 : decode cMo_init 125 = .ok (.putfield 35, 3) := by decide +kernel
theorem dMo_init_128 : decode cMo_init 128 = .ok (.aload_n 0, 1) := by decide +kernel
theorem dMo_init_129 : decode cMo_init 129 = .ok (.iconst 4, 1) := by decide +kernel
theorem dMo_init_130 : decode cMo_init 130 = .ok (.newarray .long, 2) := by decide +kernel
theorem dMo_init_132 : decode cMo_init 132 = .ok (.putfield 38, 3) := by decide +kernel
theorem dMo_init_135 : decode cMo_init 135 = .ok (.aload_n 0, 1) := by decide +kernel
theorem dMo_init_136 : decode cMo_init 136 = .ok (.iconst 4, 1) := by decide +kernel
theorem dMo_init_137 : decode cMo_init 137 = .ok (.newarray .long, 2) := by decide +kernel
theorem dMo_init_139 : decode cMo_init 139 = .ok (.putfield 41, 3) := by decide +kernel
theorem dMo_init_142 : decode cMo_init 142 = .ok (.aload_n 0, 1) := by decide +kernel
theorem dMo_init_143 : decode cMo_init 143 = .ok (.iconst 4, 1) := by decide +kernel
theorem dMo_init_144 : decode cMo_init 144 = .ok (.newarray .long, 2) := by decide +kernel
theorem dMo_init_146 : decode cMo_init 146 = .ok (.dup, 1) := by decide +kernel
theorem dMo_init_147 : decode cMo_init 147 = .ok (.iconst 0, 1) := by decide +kernel
theorem dMo_init_148 : decode cMo_init 148 = .ok (.ldc2_w 44, 3) := by decide +kernel
theorem dMo_init_151 : decode cMo_init 151 = .ok (.lastore, 1) := by decide +kernel
theorem dMo_init_152 : decode cMo_init 152 = .ok (.dup, 1) := by decide +kernel
theorem dMo_init_153 : decode cMo_init 153 = .ok (.iconst 1, 1) := by decide +kernel
theorem dMo_init_154 : decode cMo_init 154 = .ok (.ldc2_w 44, 3) := by decide +kernel
theorem dMo_init_157 : decode cMo_init 157 = .ok (.lastore, 1) := by decide +kernel
theorem dMo_init_158 : decode cMo_init 158 = .ok (.dup, 1) := by decide +kernel
theorem dMo_init_159 : decode cMo_init 159 = .ok (.iconst 2, 1) := by decide +kernel
theorem dMo_init_160 : decode cMo_init 160 = .ok (.ldc2_w 44, 3) := by decide +kernel
theorem dMo_init_163 : decode cMo_init 163 = .ok (.lastore, 1) := by decide +kernel
theorem dMo_init_164 : decode cMo_init 164 = .ok (.dup, 1) := by decide +kernel
theorem dMo_init_165 : decode cMo_init 165 = .ok (.iconst 3, 1) := by decide +kernel
theorem dMo_init_166 : decode cMo_init 166 = .ok (.ldc2_w 44, 3) := by decide +kernel
theorem dMo_init_169 : decode cMo_init 169 = .ok (.lastore, 1) := by decide +kernel
theorem dMo_init_170 : decode cMo_init 170 = .ok (.putfield 46, 3) := by decide +kernel
theorem dMo_init_173 : decode cMo_init 173 = .ok (.aload_n 0, 1) := by decide +kernel
theorem dMo_init_174 : decode cMo_init 174 = .ok (.iconst 4, 1) := by decide +kernel
theorem dMo_init_175 : decode cMo_init 175 = .ok (.newarray .int, 2) := by decide +kernel
theorem dMo_init_177 : decode cMo_init 177 = .ok (.putfield 49, 3) := by decide +kernel
theorem dMo_init_180 : decode cMo_init 180 = .ok (.aload_n 0, 1) := by decide +kernel
theorem dMo_init_181 : decode cMo_init 181 = .ok (.iconst 4, 1) := by decide +kernel
theorem dMo_init_182 : decode cMo_init 182 = .ok (.newarray .long, 2) := by decide +kernel
theorem dMo_init_184 : decode cMo_init 184 = .ok (.dup, 1) := by decide +kernel
theorem dMo_init_185 : decode cMo_init 185 = .ok (.iconst 0, 1) := by decide +kernel
theorem dMo_init_186 : decode cMo_init 186 = .ok (.ldc2_w 44, 3) := by decide +kernel
theorem dMo_init_189 : decode cMo_init 189 = .ok (.lastore, 1) := by decide +kernel
theorem dMo_init_190 : decode cMo_init 190 = .ok (.dup, 1) := by decide +kernel
theorem dMo_init_191 : decode cMo_init 191 = .ok (.iconst 1, 1) := by decide +kernel
theorem dMo_init_192 : decode cMo_init 192 = .ok (.ldc2_w 44, 3) := by decide +kernel
theorem dMo_init_195 : decode cMo_init 195 = .ok (.lastore, 1) := by decide +kernel
theorem dMo_init_196 : decode cMo_init 196 = .ok (.dup, 1) := by decide +kernel
theorem dMo_init_197 : decode cMo_init 197 = .ok (.iconst 2, 1) := by decide +kernel
theorem dMo_init_198 : decode cMo_init 198 = .ok (.ldc2_w 44, 3) := by decide +kernel
theorem dMo_init_201 : decode cMo_init 201 = .ok (.lastore, 1) := by decide +kernel
theorem dMo_init_202 : decode cMo_init 202 = .ok (.dup, 1) := by decide +kernel
theorem dMo_init_203 : decode cMo_init 203 = .ok (.iconst 3, 1) := by decide +kernel
theorem dMo_init_204 : decode cMo_init 204 = .ok (.ldc2_w 44, 3) := by decide +kernel
theorem dMo_init_207 : decode cMo_init 207 = .ok (.lastore, 1) := by decide +kernel
theorem dMo_init_208 : decode cMo_init 208 = .ok (.putfield 52, 3) := by decide +kernel
theorem dMo_init_211 : decode cMo_init 211 = .ok (.aload_n 0, 1) := by decide +kernel
theorem dMo_init_212 : decode cMo_init 212 = .ok (.iconst 4, 1) := by decide +kernel
theorem dMo_init_213 : decode cMo_init 213 = .ok (.newarray .long, 2) := by decide +kernel
theorem dMo_init_215 : decode cMo_init 215 = .ok (.dup, 1) := by decide +kernel
theorem dMo_init_216 : decode cMo_init 216 = .ok (.iconst 0, 1) := by decide +kernel
theorem dMo_init_217 : decode cMo_init 217 = .ok (.ldc2_w 44, 3) := by decide +kernel
theorem dMo_init_220 : decode cMo_init 220 = .ok (.lastore, 1) := by decide +kernel
theorem dMo_init_221 : decode cMo_init 221 = .ok (.dup, 1) := by decide +kernel
theorem dMo_init_222 : decode cMo_init 222 = .ok (.iconst 1, 1) := by decide +kernel
theorem dMo_init_223 : decode cMo_init 223 = .ok (.ldc2_w 44, 3) := by decide +kernel
theorem dMo_init_226 : decode cMo_init 226 = .ok (.lastore, 1) := by decide +kernel
theorem dMo_init_227 : decode cMo_init 227 = .ok (.dup, 1) := by decide +kernel
theorem dMo_init_228 : decode cMo_init 228 = .ok (.iconst 2, 1) := by decide +kernel
theorem dMo_init_229 : decode cMo_init 229 = .ok (.ldc2_w 44, 3) := by decide +kernel
theorem dMo_init_232 : decode cMo_init 232 = .ok (.lastore, 1) := by decide +kernel
theorem dMo_init_233 : decode cMo_init 233 = .ok (.dup, 1) := by decide +kernel
theorem dMo_init_234 : decode cMo_init 234 = .ok (.iconst 3, 1) := by decide +kernel
theorem dMo_init_235 : decode cMo_init 235 = .ok (.ldc2_w 44, 3) := by decide +kernel
theorem dMo_init_238 : decode cMo_init 238 = .ok (.lastore, 1) := by decide +kernel
theorem dMo_init_239 : decode cMo_init 239 = .ok (.putfield 55, 3) := by decide +kernel
theorem dMo_init_242 : decode cMo_init 242 = .ok (.aload_n 0, 1) := by decide +kernel
theorem dMo_init_243 : decode cMo_init 243 = .ok (.iconst 4, 1) := by decide +kernel
theorem dMo_init_244 : decode cMo_init 244 = .ok (.newarray .int, 2) := by decide +kernel
theorem dMo_init_246 : decode cMo_init 246 = .ok (.putfield 58, 3) := by decide +kernel
theorem dMo_init_249 : decode cMo_init 249 = .ok (.aload_n 0, 1) := by decide +kernel
theorem dMo_init_250 : decode cMo_init 250 = .ok (.iconst 4, 1) := by decide +kernel
theorem dMo_init_251 : decode cMo_init 251 = .ok (.newarray .int, 2) := by decide +kernel
theorem dMo_init_253 : decode cMo_init 253 = .ok (.putfield 61, 3) := by decide +kernel
theorem dMo_init_256 : decode cMo_init 256 = .ok (.aload_n 0, 1) := by decide +kernel
theorem dMo_init_257 : decode cMo_init 257 = .ok (.iconst 4, 1) := by decide +kernel
theorem dMo_init_258 : decode cMo_init 258 = .ok (.newarray .int, 2) := by decide +kernel
theorem dMo_init_260 : decode cMo_init 260 = .ok (.putfield 64, 3) := by decide +kernel
theorem dMo_init_263 : decode cMo_init 263 = .ok (.aload_n 0, 1) := by decide +kernel
theorem dMo_init_264 : decode cMo_init 264 = .ok (.iconst 4, 1) := by decide +kernel
theorem dMo_init_265 : decode cMo_init 265 = .ok (.newarray .int, 2) := by decide +kernel
theorem dMo_init_267 : decode cMo_init 267 = .ok (.dup, 1) := by decide +kernel
theorem dMo_init_268 : decode cMo_init 268 = .ok (.iconst 0, 1) := by decide +kernel
theorem dMo_init_269 : decode cMo_init 269 = .ok (.iconst 1, 1) := by decide +kernel
theorem dMo_init_270 : decode cMo_init 270 = .ok (.iastore, 1) := by decide +kernel
theorem dMo_init_271 : decode cMo_init 271 = .ok (.dup, 1) := by decide +kernel
theorem dMo_init_272 : decode cMo_init 272 = .ok (.iconst 1, 1) := by decide +kernel
theorem dMo_init_273 : decode cMo_init 273 = .ok (.iconst 1, 1) := by decide +kernel
theorem dMo_init_274 : decode cMo_init 274 = .ok (.iastore, 1) := by decide +kernel
theorem dMo_init_275 : decode cMo_init 275 = .ok (.dup, 1) := by decide +kernel
theorem dMo_init_276 : decode cMo_init 276 = .ok (.iconst 2, 1) := by decide +kernel
theorem dMo_init_277 : decode cMo_init 277 = .ok (.iconst 1, 1) := by decide +kernel
theorem dMo_init_278 : decode cMo_init 278 = .ok (.iastore, 1) := by decide +kernel
theorem dMo_init_279 : decode cMo_init 279 = .ok (.dup, 1) := by decide +kernel
theorem dMo_init_280 : decode cMo_init 280 = .ok (.iconst 3, 1) := by decide +kernel
theorem dMo_init_281 : decode cMo_init 281 = .ok (.iconst 1, 1) := by decide +kernel
theorem dMo_init_282 : decode cMo_init 282 = .ok (.iastore, 1) := by decide +kernel
theorem dMo_init_283 : decode cMo_init 283 = .ok (.putfield 67, 3) := by decide +kernel
theorem dMo_init_286 : decode cMo_init 286 = .ok (.aload_n 0, 1) := by decide +kernel
theorem dMo_init_287 : decode cMo_init 287 = .ok (.iconst 4, 1) := by decide +kernel
theorem dMo_init_288 : decode cMo_init 288 = .ok (.newarray .int, 2) := by decide +kernel
theorem dMo_init_290 : decode cMo_init 290 = .ok (.dup, 1) := by decide +kernel
theorem dMo_init_291 : decode cMo_init 291 = .ok (.iconst 0, 1) := by decide +kernel
theorem dMo_init_292 : decode cMo_init 292 = .ok (.iconst 1, 1) := by decide +kernel
theorem dMo_init_293 : decode cMo_init 293 = .ok (.iastore, 1) := by decide +kernel
theorem dMo_init_294 : decode cMo_init 294 = .ok (.dup, 1) := by decide +kernel
theorem dMo_init_295 : decode cMo_init 295 = .ok (.iconst 1, 1) := by decide +kernel
theorem dMo_init_296 : decode cMo_init 296 = .ok (.iconst 1, 1) := by decide +kernel
theorem dMo_init_297 : decode cMo_init 297 = .ok (.iastore, 1) := by decide +kernel
theorem dMo_init_298 : decode cMo_init 298 = .ok (.dup, 1) := by decide +kernel
theorem dMo_init_299 : decode cMo_init 299 = .ok (.iconst 2, 1) := by decide +kernel
theorem dMo_init_300 : decode cMo_init 300 = .ok (.iconst 1, 1) := by decide +kernel
theorem dMo_init_301 : decode cMo_init 301 = .ok (.iastore, 1) := by decide +kernel
theorem dMo_init_302 : decode cMo_init 302 = .ok (.dup, 1) := by decide +kernel
theorem dMo_init_303 : decode cMo_init 303 = .ok (.iconst 3, 1) := by decide +kernel
theorem dMo_init_304 : decode cMo_init 304 = .ok (.iconst 1, 1) := by decide +kernel
theorem dMo_init_305 : decode cMo_init 305 = .ok (.iastore, 1) := by decide +kernel
theorem dMo_init_306 : decode cMo_init 306 = .ok (.putfield 70, 3) := by decide +kernel
theorem dMo_init_309 : decode cMo_init 309 = .ok (.aload_n 0, 1) := by decide +kernel
theorem dMo_init_310 : decode cMo_init 310 = .ok (.iconst 4, 1) := by decide +kernel
theorem dMo_init_311 : decode cMo_init 311 = .ok (.newarray .boolean, 2) := by decide +kernel
theorem dMo_init_313 : decode cMo_init 313 = .ok (.putfield 73, 3) := by decide +kernel
theorem dMo_init_316 : decode cMo_init 316 = .ok (.aload_n 0, 1) := by decide +kernel
theorem dMo_init_317 : decode cMo_init 317 = .ok (.iconst 4, 1) := by decide +kernel
theorem dMo_init_318 : decode cMo_init 318 = .ok (.newarray .int, 2) := by decide +kernel
theorem dMo_init_320 : decode cMo_init 320 = .ok (.putfield 76, 3) := by decide +kernel
theorem dMo_init_323 : decode cMo_init 323 = .ok (.aload_n 0, 1) := by decide +kernel
theorem dMo_init_324 : decode cMo_init 324 = .ok (.bipush 64, 2) := by decide +kernel
theorem dMo_init_326 : decode cMo_init 326 = .ok (.newarray .boolean, 2) := by decide +kernel
theorem dMo_init_328 : decode cMo_init 328 = .ok (.putfield 79, 3) := by decide +kernel
theorem dMo_init_331 : decode cMo_init 331 = .ok (.aload_n 0, 1) := by decide +kernel
theorem dMo_init_332 : decode cMo_init 332 = .ok (.bipush 64, 2) := by decide +kernel
theorem dMo_init_334 : decode cMo_init 334 = .ok (.newarray .int, 2) := by decide +kernel
theorem dMo_init_336 : decode cMo_init 336 = .ok (.putfield 82, 3) := by decide +kernel
theorem dMo_init_339 : decode cMo_init 339 = .ok (.aload_n 0, 1) := by decide +kernel
theorem dMo_init_340 : decode cMo_init 340 = .ok (.bipush 64, 2) := by decide +kernel
theorem dMo_init_342 : decode cMo_init 342 = .ok (.newarray .int, 2) := by decide +kernel
theorem dMo_init_344 : decode cMo_init 344 = .ok (.putfield 85, 3) := by decide +kernel
theorem dMo_init_347 : decode cMo_init 347 = .ok (.aload_n 0, 1) := by decide +kernel
theorem dMo_init_348 : decode cMo_init 348 = .ok (.bipush 64, 2) := by decide +kernel
theorem dMo_init_350 : decode cMo_init 350 = .ok (.newarray .int, 2) := by decide +kernel
theorem dMo_init_352 : decode cMo_init 352 = .ok (.putfield 88, 3) := by decide +kernel
theorem dMo_init_355 : decode cMo_init 355 = .ok (.aload_n 0, 1) := by decide +kernel
theorem dMo_init_356 : decode cMo_init 356 = .ok (.bipush 64, 2) := by decide +kernel
theorem dMo_init_358 : decode cMo_init 358 = .ok (.newarray .long, 2) := by decide +kernel
theorem dMo_init_360 : decode cMo_init 360 = .ok (.putfield 91, 3) := by decide +kernel
theorem dMo_init_363 : decode cMo_init 363 = .ok (.aload_n 0, 1) := by decide +kernel
theorem dMo_init_364 : decode cMo_init 364 = .ok (.bipush 64, 2) := by decide +kernel
theorem dMo_init_366 : decode cMo_init 366 = .ok (.newarray .long, 2) := by decide +kernel
theorem dMo_init_368 : decode cMo_init 368 = .ok (.putfield 94, 3) := by decide +kernel
theorem dMo_init_371 : decode cMo_init 371 = .ok (.return_, 1) := by decide +kernel
theorem dMo_piece_0 : decode cMo_piece 0 = .ok (.iload_n 1, 1) := by decide +kernel
theorem dMo_piece_1 : decode cMo_piece 1 = .ok (.iconst 0, 1) := by decide +kernel
theorem dMo_piece_2 : decode cMo_piece 2 = .ok (.bipush 7, 2) := by decide +kernel
theorem dMo_piece_4 : decode cMo_piece 4 = .ok (.invokestatic 101, 3) := by decide +kernel
theorem dMo_piece_7 : decode cMo_piece 7 = .ok (.ifCond .eq 22, 3) := by decide +kernel
theorem dMo_piece_10 : decode cMo_piece 10 = .ok (.iload_n 2, 1) := by decide +kernel
theorem dMo_piece_11 : decode cMo_piece 11 = .ok (.iconst 1, 1) := by decide +kernel
theorem dMo_piece_12 : decode cMo_piece 12 = .ok (.bipush 40, 2) := by decide +kernel
theorem dMo_piece_14 : decode cMo_piece 14 = .ok (.invokestatic 101, 3) := by decide +kernel
theorem dMo_piece_17 : decode cMo_piece 17 = .ok (.ifCond .eq 12, 3) := by decide +kernel
theorem dMo_piece_20 : decode cMo_piece 20 = .ok (.iload_n 3, 1) := by decide +kernel
theorem dMo_piece_21 : decode cMo_piece 21 = .ok (.iconst (-1), 1) := by decide +kernel
theorem dMo_piece_22 : decode cMo_piece 22 = .ok (.iconst 1, 1) := by decide +kernel
theorem dMo_piece_23 : decode cMo_piece 23 = .ok (.invokestatic 101, 3) := by decide +kernel
theorem dMo_piece_26 : decode cMo_piece 26 = .ok (.ifCond .ne 6, 3) := by decide +kernel
theorem dMo_piece_29 : decode cMo_piece 29 = .ok (.ldc 105, 2) := by decide +kernel
theorem dMo_piece_31 : decode cMo_piece 31 = .ok (.ireturn, 1) := by decide +kernel
theorem dMo_piece_32 : decode cMo_piece 32 = .ok (.aload_n 0, 1) := by decide +kernel
theorem dMo_piece_33 : decode cMo_piece 33 = .ok (.getfield 7, 3) := by decide +kernel
theorem dMo_piece_36 : decode cMo_piece 36 = .ok (.iload_n 1, 1) := by decide +kernel
theorem dMo_piece_37 : decode cMo_piece 37 = .ok (.iload_n 2, 1) := by decide +kernel
theorem dMo_piece_38 : decode cMo_piece 38 = .ok (.iastore, 1) := by decide +kernel
theorem dMo_piece_39 : decode cMo_piece 39 = .ok (.aload_n 0, 1) := by decide +kernel
theorem dMo_piece_40 : decode cMo_piece 40 = .ok (.getfield 13, 3) := by decide +kernel
theorem dMo_piece_43 : decode cMo_piece 43 = .ok (.iload_n 1, 1) := by decide +kernel
theorem dMo_piece_44 : decode cMo_piece 44 = .ok (.iload_n 3, 1) := by decide +kernel
theorem dMo_piece_45 : decode cMo_piece 45 = .ok (.iastore, 1) := by decide +kernel
theorem dMo_piece_46 : decode cMo_piece 46 = .ok (.iconst 1, 1) := by decide +kernel
theorem dMo_piece_47 : decode cMo_piece 47 = .ok (.ireturn, 1) := by decide +kernel
theorem dMo_in_0 : decode cMo_in 0 = .ok (.iload_n 0, 1) := by decide +kernel
theorem dMo_in_1 : decode cMo_in 1 = .ok (.iload_n 1, 1) := by decide +kernel
theorem dMo_in_2 : decode cMo_in 2 = .ok (.if_icmp .lt 12, 3) := by decide +kernel
theorem dMo_in_5 : decode cMo_in 5 = .ok (.iload_n 0, 1) := by decide +kernel
theorem dMo_in_6 : decode cMo_in 6 = .ok (.iload_n 2, 1) := by decide +kernel
theorem dMo_in_7 : decode cMo_in 7 = .ok (.if_icmp .gt 7, 3) := by decide +kernel
theorem dMo_in_10 : decode cMo_in 10 = .ok (.iconst 1, 1) := by decide +kernel
theorem dMo_in_11 : decode cMo_in 11 = .ok (.goto 4, 3) := by decide +kernel
theorem dMo_in_14 : decode cMo_in 14 = .ok (.iconst 0, 1) := by decide +kernel
theorem dMo_in_15 : decode cMo_in 15 = .ok (.ireturn, 1) := by decide +kernel
theorem dMo_hold_0 : decode cMo_hold 0 = .ok (.iload_n 1, 1) := by decide +kernel
theorem dMo_hold_1 : decode cMo_hold 1 = .ok (.iconst 0, 1) := by decide +kernel
theorem dMo_hold_2 : decode cMo_hold 2 = .ok (.iconst 3, 1) := by decide +kernel
theorem dMo_hold_3 : decode cMo_hold 3 = .ok (.invokestatic 101, 3) := by decide +kernel
theorem dMo_hold_6 : decode cMo_hold 6 = .ok (.ifCond .eq 14, 3) := by decide +kernel
theorem dMo_hold_9 : decode cMo_hold 9 = .ok (.iload_n 2, 1) := by decide +kernel
theorem dMo_hold_10 : decode cMo_hold 10 = .ok (.iconst 0, 1) := by decide +kernel
theorem dMo_hold_11 : decode cMo_hold 11 = .ok (.sipush 4096, 3) := by decide +kernel
theorem dMo_hold_14 : decode cMo_hold 14 = .ok (.invokestatic 101, 3) := by decide +kernel
theorem dMo_hold_17 : decode cMo_hold 17 = .ok (.ifCond .ne 6, 3) := by decide +kernel
theorem dMo_hold_20 : decode cMo_hold 20 = .ok (.ldc 105, 2) := by decide +kernel
theorem dMo_hold_22 : decode cMo_hold 22 = .ok (.ireturn, 1) := by decide +kernel
theorem dMo_hold_23 : decode cMo_hold 23 = .ok (.aload_n 0, 1) := by decide +kernel
theorem dMo_hold_24 : decode cMo_hold 24 = .ok (.getfield 18, 3) := by decide +kernel
theorem dMo_hold_27 : decode cMo_hold 27 = .ok (.iload_n 1, 1) := by decide +kernel
theorem dMo_hold_28 : decode cMo_hold 28 = .ok (.ldc2_w 106, 3) := by decide +kernel
theorem dMo_hold_31 : decode cMo_hold 31 = .ok (.iload_n 2, 1) := by decide +kernel
theorem dMo_hold_32 : decode cMo_hold 32 = .ok (.i2l, 1) := by decide +kernel
theorem dMo_hold_33 : decode cMo_hold 33 = .ok (.lmul, 1) := by decide +kernel
theorem dMo_hold_34 : decode cMo_hold 34 = .ok (.lastore, 1) := by decide +kernel
theorem dMo_hold_35 : decode cMo_hold 35 = .ok (.aload_n 0, 1) := by decide +kernel
theorem dMo_hold_36 : decode cMo_hold 36 = .ok (.getfield 22, 3) := by decide +kernel
theorem dMo_hold_39 : decode cMo_hold 39 = .ok (.iload_n 1, 1) := by decide +kernel
theorem dMo_hold_40 : decode cMo_hold 40 = .ok (.iload_n 3, 1) := by decide +kernel
theorem dMo_hold_41 : decode cMo_hold 41 = .ok (.bastore, 1) := by decide +kernel
theorem dMo_hold_42 : decode cMo_hold 42 = .ok (.iconst 1, 1) := by decide +kernel
theorem dMo_hold_43 : decode cMo_hold 43 = .ok (.ireturn, 1) := by decide +kernel
theorem dMo_controller_0 : decode cMo_controller 0 = .ok (.iload_n 1, 1) := by decide +kernel
theorem dMo_controller_1 : decode cMo_controller 1 = .ok (.iconst 0, 1) := by decide +kernel
theorem dMo_controller_2 : decode cMo_controller 2 = .ok (.iconst 1, 1) := by decide +kernel
theorem dMo_controller_3 : decode cMo_controller 3 = .ok (.invokestatic 101, 3) := by decide +kernel
theorem dMo_controller_6 : decode cMo_controller 6 = .ok (.ifCond .ne 6, 3) := by decide +kernel
theorem dMo_controller_9 : decode cMo_controller 9 = .ok (.ldc 105, 2) := by decide +kernel
theorem dMo_controller_11 : decode cMo_controller 11 = .ok (.ireturn, 1) := by decide +kernel
theorem dMo_controller_12 : decode cMo_controller 12 = .ok (.aload_n 0, 1) := by decide +kernel
theorem dMo_controller_13 : decode cMo_controller 13 = .ok (.getfield 26, 3) := by decide +kernel
theorem dMo_controller_16 : decode cMo_controller 16 = .ok (.iload_n 1, 1) := by decide +kernel
theorem dMo_controller_17 : decode cMo_controller 17 = .ok (.baload, 1) := by decide +kernel
theorem dMo_controller_18 : decode cMo_controller 18 = .ok (.iload_n 2, 1) := by decide +kernel
theorem dMo_controller_19 : decode cMo_controller 19 = .ok (.if_icmp .ne 7, 3) := by decide +kernel
theorem dMo_controller_22 : decode cMo_controller 22 = .ok (.iconst 1, 1) := by decide +kernel
theorem dMo_controller_23 : decode cMo_controller 23 = .ok (.goto 4, 3) := by decide +kernel
theorem dMo_controller_26 : decode cMo_controller 26 = .ok (.iconst 0, 1) := by decide +kernel
theorem dMo_controller_27 : decode cMo_controller 27 = .ok (.istore_n 3, 1) := by decide +kernel
theorem dMo_controller_28 : decode cMo_controller 28 = .ok (.aload_n 0, 1) := by decide +kernel
theorem dMo_controller_29 : decode cMo_controller 29 = .ok (.getfield 26, 3) := by decide +kernel
theorem dMo_controller_32 : decode cMo_controller 32 = .ok (.iload_n 1, 1) := by decide +kernel
theorem dMo_controller_33 : decode cMo_controller 33 = .ok (.iload_n 2, 1) := by decide +kernel
theorem dMo_controller_34 : decode cMo_controller 34 = .ok (.ifCond .ne 7, 3) := by decide +kernel
theorem dMo_controller_37 : decode cMo_controller 37 = .ok (.iconst 1, 1) := by decide +kernel
theorem dMo_controller_38 : decode cMo_controller 38 = .ok (.goto 4, 3) := by decide +kernel
theorem dMo_controller_41 : decode cMo_controller 41 = .ok (.iconst 0, 1) := by decide +kernel
theorem dMo_controller_42 : decode cMo_controller 42 = .ok (.bastore, 1) := by decide +kernel
theorem dMo_controller_43 : decode cMo_controller 43 = .ok (.iload_n 3, 1) := by decide +kernel
theorem dMo_controller_44 : decode cMo_controller 44 = .ok (.ifCond .eq 7, 3) := by decide +kernel
theorem dMo_controller_47 : decode cMo_controller 47 = .ok (.iconst 1, 1) := by decide +kernel
theorem dMo_controller_48 : decode cMo_controller 48 = .ok (.goto 4, 3) := by decide +kernel
theorem dMo_controller_51 : decode cMo_controller 51 = .ok (.iconst 0, 1) := by decide +kernel
theorem dMo_controller_52 : decode cMo_controller 52 = .ok (.ireturn, 1) := by decide +kernel
theorem dMo_enter_0 : decode cMo_enter 0 = .ok (.iload_n 1, 1) := by decide +kernel
theorem dMo_enter_1 : decode cMo_enter 1 = .ok (.bipush 20, 2) := by decide +kernel
theorem dMo_enter_3 : decode cMo_enter 3 = .ok (.sipush 200, 3) := by decide +kernel
theorem dMo_enter_6 : decode cMo_enter 6 = .ok (.invokestatic 101, 3) := by decide +kernel
theorem dMo_enter_9 : decode cMo_enter 9 = .ok (.ifCond .eq 22, 3) := by decide +kernel
theorem dMo_enter_12 : decode cMo_enter 12 = .ok (.iload_n 2, 1) := by decide +kernel
theorem dMo_enter_13 : decode cMo_enter 13 = .ok (.iload_n 1, 1) := by decide +kernel
theorem dMo_enter_14 : decode cMo_enter 14 = .ok (.sipush 4000, 3) := by decide +kernel
theorem dMo_enter_17 : decode cMo_enter 17 = .ok (.invokestatic 101, 3) := by decide +kernel
theorem dMo_enter_20 : decode cMo_enter 20 = .ok (.ifCond .eq 11, 3) := by decide +kernel
theorem dMo_enter_23 : decode cMo_enter 23 = .ok (.aload_n 0, 1) := by decide +kernel
theorem dMo_enter_24 : decode cMo_enter 24 = .ok (.getfield 97, 3) := by decide +kernel
theorem dMo_enter_27 : decode cMo_enter 27 = .ok (.iconst 4, 1) := by decide +kernel
theorem dMo_enter_28 : decode cMo_enter 28 = .ok (.if_icmp .ne 6, 3) := by decide +kernel
theorem dMo_enter_31 : decode cMo_enter 31 = .ok (.ldc 105, 2) := by decide +kernel
theorem dMo_enter_33 : decode cMo_enter 33 = .ok (.ireturn, 1) := by decide +kernel
theorem dMo_enter_34 : decode cMo_enter 34 = .ok (.aload_n 0, 1) := by decide +kernel
theorem dMo_enter_35 : decode cMo_enter 35 = .ok (.getfield 97, 3) := by decide +kernel
theorem dMo_enter_38 : decode cMo_enter 38 = .ok (.ifCond .le 30, 3) := by decide +kernel
theorem dMo_enter_41 : decode cMo_enter 41 = .ok (.ldc2_w 106, 3) := by decide +kernel
theorem dMo_enter_44 : decode cMo_enter 44 = .ok (.iload_n 2, 1) := by decide +kernel
theorem dMo_enter_45 : decode cMo_enter 45 = .ok (.i2l, 1) := by decide +kernel
theorem dMo_enter_46 : decode cMo_enter 46 = .ok (.lmul, 1) := by decide +kernel
theorem dMo_enter_47 : decode cMo_enter 47 = .ok (.aload_n 0, 1) := by decide +kernel
theorem dMo_enter_48 : decode cMo_enter 48 = .ok (.aload_n 0, 1) := by decide +kernel
theorem dMo_enter_49 : decode cMo_enter 49 = .ok (.getfield 97, 3) := by decide +kernel
theorem dMo_enter_52 : decode cMo_enter 52 = .ok (.iconst 1, 1) := by decide +kernel
theorem dMo_enter_53 : decode cMo_enter 53 = .ok (.isub, 1) := by decide +kernel
theorem dMo_enter_54 : decode cMo_enter 54 = .ok (.invokevirtual 108, 3) := by decide +kernel
theorem dMo_enter_57 : decode cMo_enter 57 = .ok (.ldc2_w 112, 3) := by decide +kernel
theorem dMo_enter_60 : decode cMo_enter 60 = .ok (.lsub, 1) := by decide +kernel
theorem dMo_enter_61 : decode cMo_enter 61 = .ok (.lcmp, 1) := by decide +kernel
theorem dMo_enter_62 : decode cMo_enter 62 = .ok (.ifCond .le 6, 3) := by decide +kernel
theorem dMo_enter_65 : decode cMo_enter 65 = .ok (.ldc 105, 2) := by decide +kernel
theorem dMo_enter_67 : decode cMo_enter 67 = .ok (.ireturn, 1) := by decide +kernel
theorem dMo_enter_68 : decode cMo_enter 68 = .ok (.aload_n 0, 1) := by decide +kernel
theorem dMo_enter_69 : decode cMo_enter 69 = .ok (.getfield 29, 3) := by decide +kernel
theorem dMo_enter_72 : decode cMo_enter 72 = .ok (.aload_n 0, 1) := by decide +kernel
theorem dMo_enter_73 : decode cMo_enter 73 = .ok (.getfield 97, 3) := by decide +kernel
theorem dMo_enter_76 : decode cMo_enter 76 = .ok (.ldc2_w 106, 3) := by decide +kernel
theorem dMo_enter_79 : decode cMo_enter 79 = .ok (.iload_n 1, 1) := by decide +kernel
theorem dMo_enter_80 : decode cMo_enter 80 = .ok (.i2l, 1) := by decide +kernel
theorem dMo_enter_81 : decode cMo_enter 81 = .ok (.lmul, 1) := by decide +kernel
theorem dMo_enter_82 : decode cMo_enter 82 = .ok (.lastore, 1) := by decide +kernel
theorem dMo_enter_83 : decode cMo_enter 83 = .ok (.aload_n 0, 1) := by decide +kernel
theorem dMo_enter_84 : decode cMo_enter 84 = .ok (.getfield 32, 3) := by decide +kernel
theorem dMo_enter_87 : decode cMo_enter 87 = .ok (.aload_n 0, 1) := by decide +kernel
theorem dMo_enter_88 : decode cMo_enter 88 = .ok (.getfield 97, 3) := by decide +kernel
theorem dMo_enter_91 : decode cMo_enter 91 = .ok (.ldc2_w 106, 3) := by decide +kernel
theorem dMo_enter_94 : decode cMo_enter 94 = .ok (.iload_n 2, 1) := by decide +kernel
theorem dMo_enter_95 : decode cMo_enter 95 = .ok (.i2l, 1) := by decide +kernel
theorem dMo_enter_96 : decode cMo_enter 96 = .ok (.lmul, 1) := by decide +kernel
theorem dMo_enter_97 : decode cMo_enter 97 = .ok (.lastore, 1) := by decide +kernel
theorem dMo_enter_98 : decode cMo_enter 98 = .ok (.aload_n 0, 1) := by decide +kernel
theorem dMo_enter_99 : decode cMo_enter 99 = .ok (.getfield 38, 3) := by decide +kernel
theorem dMo_enter_102 : decode cMo_enter 102 = .ok (.aload_n 0, 1) := by decide +kernel
theorem dMo_enter_103 : decode cMo_enter 103 = .ok (.getfield 97, 3) := by decide +kernel
theorem dMo_enter_106 : decode cMo_enter 106 = .ok (.ldc2_w 106, 3) := by decide +kernel
theorem dMo_enter_109 : decode cMo_enter 109 = .ok (.iload_n 2, 1) := by decide +kernel
theorem dMo_enter_110 : decode cMo_enter 110 = .ok (.i2l, 1) := by decide +kernel
theorem dMo_enter_111 : decode cMo_enter 111 = .ok (.lmul, 1) := by decide +kernel
theorem dMo_enter_112 : decode cMo_enter 112 = .ok (.lastore, 1) := by decide +kernel
theorem dMo_enter_113 : decode cMo_enter 113 = .ok (.aload_n 0, 1) := by decide +kernel
theorem dMo_enter_114 : decode cMo_enter 114 = .ok (.dup, 1) := by decide +kernel
theorem dMo_enter_115 : decode cMo_enter 115 = .ok (.getfield 97, 3) := by decide +kernel
theorem dMo_enter_118 : decode cMo_enter 118 = .ok (.iconst 1, 1) := by decide +kernel
theorem dMo_enter_119 : decode cMo_enter 119 = .ok (.iadd, 1) := by decide +kernel
theorem dMo_enter_120 : decode cMo_enter 120 = .ok (.putfield 97, 3) := by decide +kernel
theorem dMo_enter_123 : decode cMo_enter 123 = .ok (.aload_n 0, 1) := by decide +kernel
theorem dMo_enter_124 : decode cMo_enter 124 = .ok (.getfield 97, 3) := by decide +kernel
theorem dMo_enter_127 : decode cMo_enter 127 = .ok (.iconst 1, 1) := by decide +kernel
theorem dMo_enter_128 : decode cMo_enter 128 = .ok (.isub, 1) := by decide +kernel
theorem dMo_enter_129 : decode cMo_enter 129 = .ok (.ireturn, 1) := by decide +kernel
theorem dMo_rear_0 : decode cMo_rear 0 = .ok (.aload_n 0, 1) := by decide +kernel
theorem dMo_rear_1 : decode cMo_rear 1 = .ok (.getfield 32, 3) := by decide +kernel
theorem dMo_rear_4 : decode cMo_rear 4 = .ok (.iload_n 1, 1) := by decide +kernel
theorem dMo_rear_5 : decode cMo_rear 5 = .ok (.laload, 1) := by decide +kernel
theorem dMo_rear_6 : decode cMo_rear 6 = .ok (.aload_n 0, 1) := by decide +kernel
theorem dMo_rear_7 : decode cMo_rear 7 = .ok (.getfield 29, 3) := by decide +kernel
theorem dMo_rear_10 : decode cMo_rear 10 = .ok (.iload_n 1, 1) := by decide +kernel
theorem dMo_rear_11 : decode cMo_rear 11 = .ok (.laload, 1) := by decide +kernel
theorem dMo_rear_12 : decode cMo_rear 12 = .ok (.lsub, 1) := by decide +kernel
theorem dMo_rear_13 : decode cMo_rear 13 = .ok (.lreturn, 1) := by decide +kernel
theorem dMo_demand_0 : decode cMo_demand 0 = .ok (.aload_n 0, 1) := by decide +kernel
theorem dMo_demand_1 : decode cMo_demand 1 = .ok (.iload_n 1, 1) := by decide +kernel
theorem dMo_demand_2 : decode cMo_demand 2 = .ok (.invokevirtual 114, 3) := by decide +kernel
theorem dMo_demand_5 : decode cMo_demand 5 = .ok (.ifCond .ne 12, 3) := by decide +kernel
theorem dMo_demand_8 : decode cMo_demand 8 = .ok (.iload_n 2, 1) := by decide +kernel
theorem dMo_demand_9 : decode cMo_demand 9 = .ok (.iconst (-1), 1) := by decide +kernel
theorem dMo_demand_10 : decode cMo_demand 10 = .ok (.iconst 1, 1) := by decide +kernel
theorem dMo_demand_11 : decode cMo_demand 11 = .ok (.invokestatic 101, 3) := by decide +kernel
theorem dMo_demand_14 : decode cMo_demand 14 = .ok (.ifCond .ne 6, 3) := by decide +kernel
theorem dMo_demand_17 : decode cMo_demand 17 = .ok (.ldc 105, 2) := by decide +kernel
theorem dMo_demand_19 : decode cMo_demand 19 = .ok (.ireturn, 1) := by decide +kernel
theorem dMo_demand_20 : decode cMo_demand 20 = .ok (.aload_n 0, 1) := by decide +kernel
theorem dMo_demand_21 : decode cMo_demand 21 = .ok (.getfield 61, 3) := by decide +kernel
theorem dMo_demand_24 : decode cMo_demand 24 = .ok (.iload_n 1, 1) := by decide +kernel
theorem dMo_demand_25 : decode cMo_demand 25 = .ok (.iload_n 2, 1) := by decide +kernel
theorem dMo_demand_26 : decode cMo_demand 26 = .ok (.iastore, 1) := by decide +kernel
theorem dMo_demand_27 : decode cMo_demand 27 = .ok (.iconst 1, 1) := by decide +kernel
theorem dMo_demand_28 : decode cMo_demand 28 = .ok (.ireturn, 1) := by decide +kernel
theorem dMo_noTrain_0 : decode cMo_noTrain 0 = .ok (.iload_n 1, 1) := by decide +kernel
theorem dMo_noTrain_1 : decode cMo_noTrain 1 = .ok (.ifCond .lt 11, 3) := by decide +kernel
theorem dMo_noTrain_4 : decode cMo_noTrain 4 = .ok (.iload_n 1, 1) := by decide +kernel
theorem dMo_noTrain_5 : decode cMo_noTrain 5 = .ok (.aload_n 0, 1) := by decide +kernel
theorem dMo_noTrain_6 : decode cMo_noTrain 6 = .ok (.getfield 97, 3) := by decide +kernel
theorem dMo_noTrain_9 : decode cMo_noTrain 9 = .ok (.if_icmp .lt 7, 3) := by decide +kernel
theorem dMo_noTrain_12 : decode cMo_noTrain 12 = .ok (.iconst 1, 1) := by decide +kernel
theorem dMo_noTrain_13 : decode cMo_noTrain 13 = .ok (.goto 4, 3) := by decide +kernel
theorem dMo_noTrain_16 : decode cMo_noTrain 16 = .ok (.iconst 0, 1) := by decide +kernel
theorem dMo_noTrain_17 : decode cMo_noTrain 17 = .ok (.ireturn, 1) := by decide +kernel
theorem dMo_drift_0 : decode cMo_drift 0 = .ok (.aload_n 0, 1) := by decide +kernel
theorem dMo_drift_1 : decode cMo_drift 1 = .ok (.iload_n 1, 1) := by decide +kernel
theorem dMo_drift_2 : decode cMo_drift 2 = .ok (.invokevirtual 114, 3) := by decide +kernel
theorem dMo_drift_5 : decode cMo_drift 5 = .ok (.ifCond .ne 13, 3) := by decide +kernel
theorem dMo_drift_8 : decode cMo_drift 8 = .ok (.iload_n 2, 1) := by decide +kernel
theorem dMo_drift_9 : decode cMo_drift 9 = .ok (.bipush (-2), 2) := by decide +kernel
theorem dMo_drift_11 : decode cMo_drift 11 = .ok (.iconst 2, 1) := by decide +kernel
theorem dMo_drift_12 : decode cMo_drift 12 = .ok (.invokestatic 101, 3) := by decide +kernel
theorem dMo_drift_15 : decode cMo_drift 15 = .ok (.ifCond .ne 6, 3) := by decide +kernel
theorem dMo_drift_18 : decode cMo_drift 18 = .ok (.ldc 105, 2) := by decide +kernel
theorem dMo_drift_20 : decode cMo_drift 20 = .ok (.ireturn, 1) := by decide +kernel
theorem dMo_drift_21 : decode cMo_drift 21 = .ok (.aload_n 0, 1) := by decide +kernel
theorem dMo_drift_22 : decode cMo_drift 22 = .ok (.getfield 64, 3) := by decide +kernel
theorem dMo_drift_25 : decode cMo_drift 25 = .ok (.iload_n 1, 1) := by decide +kernel
theorem dMo_drift_26 : decode cMo_drift 26 = .ok (.iload_n 2, 1) := by decide +kernel
theorem dMo_drift_27 : decode cMo_drift 27 = .ok (.iastore, 1) := by decide +kernel
theorem dMo_drift_28 : decode cMo_drift 28 = .ok (.iconst 1, 1) := by decide +kernel
theorem dMo_drift_29 : decode cMo_drift 29 = .ok (.ireturn, 1) := by decide +kernel
theorem dMo_radio_0 : decode cMo_radio 0 = .ok (.aload_n 0, 1) := by decide +kernel
theorem dMo_radio_1 : decode cMo_radio 1 = .ok (.iload_n 1, 1) := by decide +kernel
theorem dMo_radio_2 : decode cMo_radio 2 = .ok (.invokevirtual 114, 3) := by decide +kernel
theorem dMo_radio_5 : decode cMo_radio 5 = .ok (.ifCond .ne 21, 3) := by decide +kernel
theorem dMo_radio_8 : decode cMo_radio 8 = .ok (.iload_n 2, 1) := by decide +kernel
theorem dMo_radio_9 : decode cMo_radio 9 = .ok (.iconst 0, 1) := by decide +kernel
theorem dMo_radio_10 : decode cMo_radio 10 = .ok (.iconst 5, 1) := by decide +kernel
theorem dMo_radio_11 : decode cMo_radio 11 = .ok (.invokestatic 101, 3) := by decide +kernel
theorem dMo_radio_14 : decode cMo_radio 14 = .ok (.ifCond .eq 12, 3) := by decide +kernel
theorem dMo_radio_17 : decode cMo_radio 17 = .ok (.iload_n 3, 1) := by decide +kernel
theorem dMo_radio_18 : decode cMo_radio 18 = .ok (.iconst 0, 1) := by decide +kernel
theorem dMo_radio_19 : decode cMo_radio 19 = .ok (.iconst 5, 1) := by decide +kernel
theorem dMo_radio_20 : decode cMo_radio 20 = .ok (.invokestatic 101, 3) := by decide +kernel
theorem dMo_radio_23 : decode cMo_radio 23 = .ok (.ifCond .ne 6, 3) := by decide +kernel
theorem dMo_radio_26 : decode cMo_radio 26 = .ok (.ldc 105, 2) := by decide +kernel
theorem dMo_radio_28 : decode cMo_radio 28 = .ok (.ireturn, 1) := by decide +kernel
theorem dMo_radio_29 : decode cMo_radio 29 = .ok (.aload_n 0, 1) := by decide +kernel
theorem dMo_radio_30 : decode cMo_radio 30 = .ok (.getfield 67, 3) := by decide +kernel
theorem dMo_radio_33 : decode cMo_radio 33 = .ok (.iload_n 1, 1) := by decide +kernel
theorem dMo_radio_34 : decode cMo_radio 34 = .ok (.iload_n 2, 1) := by decide +kernel
theorem dMo_radio_35 : decode cMo_radio 35 = .ok (.iastore, 1) := by decide +kernel
theorem dMo_radio_36 : decode cMo_radio 36 = .ok (.aload_n 0, 1) := by decide +kernel
theorem dMo_radio_37 : decode cMo_radio 37 = .ok (.getfield 70, 3) := by decide +kernel
theorem dMo_radio_40 : decode cMo_radio 40 = .ok (.iload_n 1, 1) := by decide +kernel
theorem dMo_radio_41 : decode cMo_radio 41 = .ok (.iload_n 3, 1) := by decide +kernel
theorem dMo_radio_42 : decode cMo_radio 42 = .ok (.iastore, 1) := by decide +kernel
theorem dMo_radio_43 : decode cMo_radio 43 = .ok (.iconst 1, 1) := by decide +kernel
theorem dMo_radio_44 : decode cMo_radio 44 = .ok (.ireturn, 1) := by decide +kernel
theorem dMo_tick_0 : decode cMo_tick 0 = .ok (.iload_n 1, 1) := by decide +kernel
theorem dMo_tick_1 : decode cMo_tick 1 = .ok (.iconst 1, 1) := by decide +kernel
theorem dMo_tick_2 : decode cMo_tick 2 = .ok (.bipush 8, 2) := by decide +kernel
theorem dMo_tick_4 : decode cMo_tick 4 = .ok (.invokestatic 101, 3) := by decide +kernel
theorem dMo_tick_7 : decode cMo_tick 7 = .ok (.ifCond .ne 6, 3) := by decide +kernel
theorem dMo_tick_10 : decode cMo_tick 10 = .ok (.ldc 105, 2) := by decide +kernel
theorem dMo_tick_12 : decode cMo_tick 12 = .ok (.ireturn, 1) := by decide +kernel
theorem dMo_tick_13 : decode cMo_tick 13 = .ok (.iconst 0, 1) := by decide +kernel
theorem dMo_tick_14 : decode cMo_tick 14 = .ok (.istore_n 2, 1) := by decide +kernel
theorem dMo_tick_15 : decode cMo_tick 15 = .ok (.iload_n 2, 1) := by decide +kernel
theorem dMo_tick_16 : decode cMo_tick 16 = .ok (.iload_n 1, 1) := by decide +kernel
theorem dMo_tick_17 : decode cMo_tick 17 = .ok (.if_icmp .ge 92, 3) := by decide +kernel
theorem dMo_tick_20 : decode cMo_tick 20 = .ok (.aload_n 0, 1) := by decide +kernel
theorem dMo_tick_21 : decode cMo_tick 21 = .ok (.dup, 1) := by decide +kernel
theorem dMo_tick_22 : decode cMo_tick 22 = .ok (.getfield 124, 3) := by decide +kernel
theorem dMo_tick_25 : decode cMo_tick 25 = .ok (.iconst 1, 1) := by decide +kernel
theorem dMo_tick_26 : decode cMo_tick 26 = .ok (.iadd, 1) := by decide +kernel
theorem dMo_tick_27 : decode cMo_tick 27 = .ok (.putfield 124, 3) := by decide +kernel
theorem dMo_tick_30 : decode cMo_tick 30 = .ok (.iconst 0, 1) := by decide +kernel
theorem dMo_tick_31 : decode cMo_tick 31 = .ok (.istore_n 3, 1) := by decide +kernel
theorem dMo_tick_32 : decode cMo_tick 32 = .ok (.iload_n 3, 1) := by decide +kernel
theorem dMo_tick_33 : decode cMo_tick 33 = .ok (.aload_n 0, 1) := by decide +kernel
theorem dMo_tick_34 : decode cMo_tick 34 = .ok (.getfield 97, 3) := by decide +kernel
theorem dMo_tick_37 : decode cMo_tick 37 = .ok (.if_icmp .ge 31, 3) := by decide +kernel
theorem dMo_tick_40 : decode cMo_tick 40 = .ok (.aload_n 0, 1) := by decide +kernel
theorem dMo_tick_41 : decode cMo_tick 41 = .ok (.iconst 0, 1) := by decide +kernel
theorem dMo_tick_42 : decode cMo_tick 42 = .ok (.iload_n 3, 1) := by decide +kernel
theorem dMo_tick_43 : decode cMo_tick 43 = .ok (.aload_n 0, 1) := by decide +kernel
theorem dMo_tick_44 : decode cMo_tick 44 = .ok (.getfield 67, 3) := by decide +kernel
theorem dMo_tick_47 : decode cMo_tick 47 = .ok (.iload_n 3, 1) := by decide +kernel
theorem dMo_tick_48 : decode cMo_tick 48 = .ok (.iaload, 1) := by decide +kernel
theorem dMo_tick_49 : decode cMo_tick 49 = .ok (.aload_n 0, 1) := by decide +kernel
theorem dMo_tick_50 : decode cMo_tick 50 = .ok (.iload_n 3, 1) := by decide +kernel
theorem dMo_tick_51 : decode cMo_tick 51 = .ok (.invokevirtual 163, 3) := by decide +kernel
theorem dMo_tick_54 : decode cMo_tick 54 = .ok (.aload_n 0, 1) := by decide +kernel
theorem dMo_tick_55 : decode cMo_tick 55 = .ok (.iload_n 3, 1) := by decide +kernel
theorem dMo_tick_56 : decode cMo_tick 56 = .ok (.invokevirtual 166, 3) := by decide +kernel
theorem dMo_tick_59 : decode cMo_tick 59 = .ok (.invokevirtual 142, 3) := by decide +kernel
theorem dMo_tick_62 : decode cMo_tick 62 = .ok (.iinc 3 1, 3) := by decide +kernel
theorem dMo_tick_65 : decode cMo_tick 65 = .ok (.goto (-33), 3) := by decide +kernel
theorem dMo_tick_68 : decode cMo_tick 68 = .ok (.aload_n 0, 1) := by decide +kernel
theorem dMo_tick_69 : decode cMo_tick 69 = .ok (.iconst 0, 1) := by decide +kernel
theorem dMo_tick_70 : decode cMo_tick 70 = .ok (.invokevirtual 177, 3) := by decide +kernel
theorem dMo_tick_73 : decode cMo_tick 73 = .ok (.aload_n 0, 1) := by decide +kernel
theorem dMo_tick_74 : decode cMo_tick 74 = .ok (.invokevirtual 181, 3) := by decide +kernel
theorem dMo_tick_77 : decode cMo_tick 77 = .ok (.aload_n 0, 1) := by decide +kernel
theorem dMo_tick_78 : decode cMo_tick 78 = .ok (.iconst 1, 1) := by decide +kernel
theorem dMo_tick_79 : decode cMo_tick 79 = .ok (.invokevirtual 177, 3) := by decide +kernel
theorem dMo_tick_82 : decode cMo_tick 82 = .ok (.iconst 0, 1) := by decide +kernel
theorem dMo_tick_83 : decode cMo_tick 83 = .ok (.istore_n 3, 1) := by decide +kernel
theorem dMo_tick_84 : decode cMo_tick 84 = .ok (.iload_n 3, 1) := by decide +kernel
theorem dMo_tick_85 : decode cMo_tick 85 = .ok (.aload_n 0, 1) := by decide +kernel
theorem dMo_tick_86 : decode cMo_tick 86 = .ok (.getfield 97, 3) := by decide +kernel
theorem dMo_tick_89 : decode cMo_tick 89 = .ok (.if_icmp .ge 14, 3) := by decide +kernel
theorem dMo_tick_92 : decode cMo_tick 92 = .ok (.aload_n 0, 1) := by decide +kernel
theorem dMo_tick_93 : decode cMo_tick 93 = .ok (.iload_n 3, 1) := by decide +kernel
theorem dMo_tick_94 : decode cMo_tick 94 = .ok (.invokevirtual 184, 3) := by decide +kernel
theorem dMo_tick_97 : decode cMo_tick 97 = .ok (.iinc 3 1, 3) := by decide +kernel
theorem dMo_tick_100 : decode cMo_tick 100 = .ok (.goto (-16), 3) := by decide +kernel
theorem dMo_tick_103 : decode cMo_tick 103 = .ok (.iinc 2 1, 3) := by decide +kernel
theorem dMo_tick_106 : decode cMo_tick 106 = .ok (.goto (-91), 3) := by decide +kernel
theorem dMo_tick_109 : decode cMo_tick 109 = .ok (.aload_n 0, 1) := by decide +kernel
theorem dMo_tick_110 : decode cMo_tick 110 = .ok (.getfield 124, 3) := by decide +kernel
theorem dMo_tick_113 : decode cMo_tick 113 = .ok (.ireturn, 1) := by decide +kernel
theorem dMo_reach_0 : decode cMo_reach 0 = .ok (.aload_n 0, 1) := by decide +kernel
theorem dMo_reach_1 : decode cMo_reach 1 = .ok (.getfield 38, 3) := by decide +kernel
theorem dMo_reach_4 : decode cMo_reach 4 = .ok (.iload_n 1, 1) := by decide +kernel
theorem dMo_reach_5 : decode cMo_reach 5 = .ok (.laload, 1) := by decide +kernel
theorem dMo_reach_6 : decode cMo_reach 6 = .ok (.aload_n 0, 1) := by decide +kernel
theorem dMo_reach_7 : decode cMo_reach 7 = .ok (.getfield 41, 3) := by decide +kernel
theorem dMo_reach_10 : decode cMo_reach 10 = .ok (.iload_n 1, 1) := by decide +kernel
theorem dMo_reach_11 : decode cMo_reach 11 = .ok (.laload, 1) := by decide +kernel
theorem dMo_reach_12 : decode cMo_reach 12 = .ok (.ladd, 1) := by decide +kernel
theorem dMo_reach_13 : decode cMo_reach 13 = .ok (.lreturn, 1) := by decide +kernel
theorem dMo_tail_0 : decode cMo_tail 0 = .ok (.aload_n 0, 1) := by decide +kernel
theorem dMo_tail_1 : decode cMo_tail 1 = .ok (.getfield 38, 3) := by decide +kernel
theorem dMo_tail_4 : decode cMo_tail 4 = .ok (.iload_n 1, 1) := by decide +kernel
theorem dMo_tail_5 : decode cMo_tail 5 = .ok (.laload, 1) := by decide +kernel
theorem dMo_tail_6 : decode cMo_tail 6 = .ok (.aload_n 0, 1) := by decide +kernel
theorem dMo_tail_7 : decode cMo_tail 7 = .ok (.getfield 41, 3) := by decide +kernel
theorem dMo_tail_10 : decode cMo_tail 10 = .ok (.iload_n 1, 1) := by decide +kernel
theorem dMo_tail_11 : decode cMo_tail 11 = .ok (.laload, 1) := by decide +kernel
theorem dMo_tail_12 : decode cMo_tail 12 = .ok (.lsub, 1) := by decide +kernel
theorem dMo_tail_13 : decode cMo_tail 13 = .ok (.aload_n 0, 1) := by decide +kernel
theorem dMo_tail_14 : decode cMo_tail 14 = .ok (.getfield 29, 3) := by decide +kernel
theorem dMo_tail_17 : decode cMo_tail 17 = .ok (.iload_n 1, 1) := by decide +kernel
theorem dMo_tail_18 : decode cMo_tail 18 = .ok (.laload, 1) := by decide +kernel
theorem dMo_tail_19 : decode cMo_tail 19 = .ok (.lsub, 1) := by decide +kernel
theorem dMo_tail_20 : decode cMo_tail 20 = .ok (.lreturn, 1) := by decide +kernel
theorem dMo_send_0 : decode cMo_send 0 = .ok (.iload_n 3, 1) := by decide +kernel
theorem dMo_send_1 : decode cMo_send 1 = .ok (.ifCond .ne 14, 3) := by decide +kernel
theorem dMo_send_4 : decode cMo_send 4 = .ok (.aload_n 0, 1) := by decide +kernel
theorem dMo_send_5 : decode cMo_send 5 = .ok (.dup, 1) := by decide +kernel
theorem dMo_send_6 : decode cMo_send 6 = .ok (.getfield 118, 3) := by decide +kernel
theorem dMo_send_9 : decode cMo_send 9 = .ok (.iconst 1, 1) := by decide +kernel
theorem dMo_send_10 : decode cMo_send 10 = .ok (.iadd, 1) := by decide +kernel
theorem dMo_send_11 : decode cMo_send 11 = .ok (.putfield 118, 3) := by decide +kernel
theorem dMo_send_14 : decode cMo_send 14 = .ok (.return_, 1) := by decide +kernel
theorem dMo_send_15 : decode cMo_send 15 = .ok (.aload_n 0, 1) := by decide +kernel
theorem dMo_send_16 : decode cMo_send 16 = .ok (.getfield 79, 3) := by decide +kernel
theorem dMo_send_19 : decode cMo_send 19 = .ok (.aload_n 0, 1) := by decide +kernel
theorem dMo_send_20 : decode cMo_send 20 = .ok (.getfield 121, 3) := by decide +kernel
theorem dMo_send_23 : decode cMo_send 23 = .ok (.iload_n 1, 1) := by decide +kernel
theorem dMo_send_24 : decode cMo_send 24 = .ok (.bastore, 1) := by decide +kernel
theorem dMo_send_25 : decode cMo_send 25 = .ok (.aload_n 0, 1) := by decide +kernel
theorem dMo_send_26 : decode cMo_send 26 = .ok (.getfield 82, 3) := by decide +kernel
theorem dMo_send_29 : decode cMo_send 29 = .ok (.aload_n 0, 1) := by decide +kernel
theorem dMo_send_30 : decode cMo_send 30 = .ok (.getfield 121, 3) := by decide +kernel
theorem dMo_send_33 : decode cMo_send 33 = .ok (.iload_n 2, 1) := by decide +kernel
theorem dMo_send_34 : decode cMo_send 34 = .ok (.iastore, 1) := by decide +kernel
theorem dMo_send_35 : decode cMo_send 35 = .ok (.aload_n 0, 1) := by decide +kernel
theorem dMo_send_36 : decode cMo_send 36 = .ok (.getfield 85, 3) := by decide +kernel
theorem dMo_send_39 : decode cMo_send 39 = .ok (.aload_n 0, 1) := by decide +kernel
theorem dMo_send_40 : decode cMo_send 40 = .ok (.getfield 121, 3) := by decide +kernel
theorem dMo_send_43 : decode cMo_send 43 = .ok (.aload_n 0, 1) := by decide +kernel
theorem dMo_send_44 : decode cMo_send 44 = .ok (.getfield 124, 3) := by decide +kernel
theorem dMo_send_47 : decode cMo_send 47 = .ok (.iastore, 1) := by decide +kernel
theorem dMo_send_48 : decode cMo_send 48 = .ok (.aload_n 0, 1) := by decide +kernel
theorem dMo_send_49 : decode cMo_send 49 = .ok (.getfield 88, 3) := by decide +kernel
theorem dMo_send_52 : decode cMo_send 52 = .ok (.aload_n 0, 1) := by decide +kernel
theorem dMo_send_53 : decode cMo_send 53 = .ok (.getfield 121, 3) := by decide +kernel
theorem dMo_send_56 : decode cMo_send 56 = .ok (.aload_n 0, 1) := by decide +kernel
theorem dMo_send_57 : decode cMo_send 57 = .ok (.getfield 124, 3) := by decide +kernel
theorem dMo_send_60 : decode cMo_send 60 = .ok (.iload_n 3, 1) := by decide +kernel
theorem dMo_send_61 : decode cMo_send 61 = .ok (.iadd, 1) := by decide +kernel
theorem dMo_send_62 : decode cMo_send 62 = .ok (.iconst 1, 1) := by decide +kernel
theorem dMo_send_63 : decode cMo_send 63 = .ok (.isub, 1) := by decide +kernel
theorem dMo_send_64 : decode cMo_send 64 = .ok (.iastore, 1) := by decide +kernel
theorem dMo_send_65 : decode cMo_send 65 = .ok (.aload_n 0, 1) := by decide +kernel
theorem dMo_send_66 : decode cMo_send 66 = .ok (.getfield 91, 3) := by decide +kernel
theorem dMo_send_69 : decode cMo_send 69 = .ok (.aload_n 0, 1) := by decide +kernel
theorem dMo_send_70 : decode cMo_send 70 = .ok (.getfield 121, 3) := by decide +kernel
theorem dMo_send_73 : decode cMo_send 73 = .ok (.lload 4, 2) := by decide +kernel
theorem dMo_send_75 : decode cMo_send 75 = .ok (.lastore, 1) := by decide +kernel
theorem dMo_send_76 : decode cMo_send 76 = .ok (.aload_n 0, 1) := by decide +kernel
theorem dMo_send_77 : decode cMo_send 77 = .ok (.getfield 94, 3) := by decide +kernel
theorem dMo_send_80 : decode cMo_send 80 = .ok (.aload_n 0, 1) := by decide +kernel
theorem dMo_send_81 : decode cMo_send 81 = .ok (.getfield 121, 3) := by decide +kernel
theorem dMo_send_84 : decode cMo_send 84 = .ok (.lload 6, 2) := by decide +kernel
theorem dMo_send_86 : decode cMo_send 86 = .ok (.lastore, 1) := by decide +kernel
theorem dMo_send_87 : decode cMo_send 87 = .ok (.aload_n 0, 1) := by decide +kernel
theorem dMo_send_88 : decode cMo_send 88 = .ok (.dup, 1) := by decide +kernel
theorem dMo_send_89 : decode cMo_send 89 = .ok (.getfield 121, 3) := by decide +kernel
theorem dMo_send_92 : decode cMo_send 92 = .ok (.iconst 1, 1) := by decide +kernel
theorem dMo_send_93 : decode cMo_send 93 = .ok (.iadd, 1) := by decide +kernel
theorem dMo_send_94 : decode cMo_send 94 = .ok (.putfield 121, 3) := by decide +kernel
theorem dMo_send_97 : decode cMo_send 97 = .ok (.return_, 1) := by decide +kernel
theorem dMo_arrive_0 : decode cMo_arrive 0 = .ok (.iconst 0, 1) := by decide +kernel
theorem dMo_arrive_1 : decode cMo_arrive 1 = .ok (.istore_n 2, 1) := by decide +kernel
theorem dMo_arrive_2 : decode cMo_arrive 2 = .ok (.iload_n 2, 1) := by decide +kernel
theorem dMo_arrive_3 : decode cMo_arrive 3 = .ok (.aload_n 0, 1) := by decide +kernel
theorem dMo_arrive_4 : decode cMo_arrive 4 = .ok (.getfield 121, 3) := by decide +kernel
theorem dMo_arrive_7 : decode cMo_arrive 7 = .ok (.if_icmp .ge 45, 3) := by decide +kernel
theorem dMo_arrive_10 : decode cMo_arrive 10 = .ok (.aload_n 0, 1) := by decide +kernel
theorem dMo_arrive_11 : decode cMo_arrive 11 = .ok (.getfield 88, 3) := by decide +kernel
theorem dMo_arrive_14 : decode cMo_arrive 14 = .ok (.iload_n 2, 1) := by decide +kernel
theorem dMo_arrive_15 : decode cMo_arrive 15 = .ok (.iaload, 1) := by decide +kernel
theorem dMo_arrive_16 : decode cMo_arrive 16 = .ok (.aload_n 0, 1) := by decide +kernel
theorem dMo_arrive_17 : decode cMo_arrive 17 = .ok (.getfield 124, 3) := by decide +kernel
theorem dMo_arrive_20 : decode cMo_arrive 20 = .ok (.if_icmp .ne 26, 3) := by decide +kernel
theorem dMo_arrive_23 : decode cMo_arrive 23 = .ok (.aload_n 0, 1) := by decide +kernel
theorem dMo_arrive_24 : decode cMo_arrive 24 = .ok (.getfield 79, 3) := by decide +kernel
theorem dMo_arrive_27 : decode cMo_arrive 27 = .ok (.iload_n 2, 1) := by decide +kernel
theorem dMo_arrive_28 : decode cMo_arrive 28 = .ok (.baload, 1) := by decide +kernel
theorem dMo_arrive_29 : decode cMo_arrive 29 = .ok (.iload_n 1, 1) := by decide +kernel
theorem dMo_arrive_30 : decode cMo_arrive 30 = .ok (.if_icmp .ne 16, 3) := by decide +kernel
theorem dMo_arrive_33 : decode cMo_arrive 33 = .ok (.aload_n 0, 1) := by decide +kernel
theorem dMo_arrive_34 : decode cMo_arrive 34 = .ok (.iload_n 2, 1) := by decide +kernel
theorem dMo_arrive_35 : decode cMo_arrive 35 = .ok (.invokevirtual 130, 3) := by decide +kernel
theorem dMo_arrive_38 : decode cMo_arrive 38 = .ok (.aload_n 0, 1) := by decide +kernel
theorem dMo_arrive_39 : decode cMo_arrive 39 = .ok (.iload_n 2, 1) := by decide +kernel
theorem dMo_arrive_40 : decode cMo_arrive 40 = .ok (.invokevirtual 134, 3) := by decide +kernel
theorem dMo_arrive_43 : decode cMo_arrive 43 = .ok (.goto (-41), 3) := by decide +kernel
theorem dMo_arrive_46 : decode cMo_arrive 46 = .ok (.iinc 2 1, 3) := by decide +kernel
theorem dMo_arrive_49 : decode cMo_arrive 49 = .ok (.goto (-47), 3) := by decide +kernel
theorem dMo_arrive_52 : decode cMo_arrive 52 = .ok (.return_, 1) := by decide +kernel
theorem dMo_take_0 : decode cMo_take 0 = .ok (.aload_n 0, 1) := by decide +kernel
theorem dMo_take_1 : decode cMo_take 1 = .ok (.getfield 82, 3) := by decide +kernel
theorem dMo_take_4 : decode cMo_take 4 = .ok (.iload_n 1, 1) := by decide +kernel
theorem dMo_take_5 : decode cMo_take 5 = .ok (.iaload, 1) := by decide +kernel
theorem dMo_take_6 : decode cMo_take 6 = .ok (.istore_n 2, 1) := by decide +kernel
theorem dMo_take_7 : decode cMo_take 7 = .ok (.aload_n 0, 1) := by decide +kernel
theorem dMo_take_8 : decode cMo_take 8 = .ok (.getfield 79, 3) := by decide +kernel
theorem dMo_take_11 : decode cMo_take 11 = .ok (.iload_n 1, 1) := by decide +kernel
theorem dMo_take_12 : decode cMo_take 12 = .ok (.baload, 1) := by decide +kernel
theorem dMo_take_13 : decode cMo_take 13 = .ok (.ifCond .eq 12, 3) := by decide +kernel
theorem dMo_take_16 : decode cMo_take 16 = .ok (.aload_n 0, 1) := by decide +kernel
theorem dMo_take_17 : decode cMo_take 17 = .ok (.getfield 49, 3) := by decide +kernel
theorem dMo_take_20 : decode cMo_take 20 = .ok (.iload_n 2, 1) := by decide +kernel
theorem dMo_take_21 : decode cMo_take 21 = .ok (.iaload, 1) := by decide +kernel
theorem dMo_take_22 : decode cMo_take 22 = .ok (.goto 9, 3) := by decide +kernel
theorem dMo_take_25 : decode cMo_take 25 = .ok (.aload_n 0, 1) := by decide +kernel
theorem dMo_take_26 : decode cMo_take 26 = .ok (.getfield 58, 3) := by decide +kernel
theorem dMo_take_29 : decode cMo_take 29 = .ok (.iload_n 2, 1) := by decide +kernel
theorem dMo_take_30 : decode cMo_take 30 = .ok (.iaload, 1) := by decide +kernel
theorem dMo_take_31 : decode cMo_take 31 = .ok (.istore_n 3, 1) := by decide +kernel
theorem dMo_take_32 : decode cMo_take 32 = .ok (.aload_n 0, 1) := by decide +kernel
theorem dMo_take_33 : decode cMo_take 33 = .ok (.getfield 85, 3) := by decide +kernel
theorem dMo_take_36 : decode cMo_take 36 = .ok (.iload_n 1, 1) := by decide +kernel
theorem dMo_take_37 : decode cMo_take 37 = .ok (.iaload, 1) := by decide +kernel
theorem dMo_take_38 : decode cMo_take 38 = .ok (.iload_n 3, 1) := by decide +kernel
theorem dMo_take_39 : decode cMo_take 39 = .ok (.if_icmp .gt 16, 3) := by decide +kernel
theorem dMo_take_42 : decode cMo_take 42 = .ok (.aload_n 0, 1) := by decide +kernel
theorem dMo_take_43 : decode cMo_take 43 = .ok (.dup, 1) := by decide +kernel
theorem dMo_take_44 : decode cMo_take 44 = .ok (.getfield 127, 3) := by decide +kernel
theorem dMo_take_47 : decode cMo_take 47 = .ok (.iconst 1, 1) := by decide +kernel
theorem dMo_take_48 : decode cMo_take 48 = .ok (.iadd, 1) := by decide +kernel
theorem dMo_take_49 : decode cMo_take 49 = .ok (.putfield 127, 3) := by decide +kernel
theorem dMo_take_52 : decode cMo_take 52 = .ok (.goto 75, 3) := by decide +kernel
theorem dMo_take_55 : decode cMo_take 55 = .ok (.aload_n 0, 1) := by decide +kernel
theorem dMo_take_56 : decode cMo_take 56 = .ok (.getfield 79, 3) := by decide +kernel
theorem dMo_take_59 : decode cMo_take 59 = .ok (.iload_n 1, 1) := by decide +kernel
theorem dMo_take_60 : decode cMo_take 60 = .ok (.baload, 1) := by decide +kernel
theorem dMo_take_61 : decode cMo_take 61 = .ok (.ifCond .eq 30, 3) := by decide +kernel
theorem dMo_take_64 : decode cMo_take 64 = .ok (.aload_n 0, 1) := by decide +kernel
theorem dMo_take_65 : decode cMo_take 65 = .ok (.getfield 46, 3) := by decide +kernel
theorem dMo_take_68 : decode cMo_take 68 = .ok (.iload_n 2, 1) := by decide +kernel
theorem dMo_take_69 : decode cMo_take 69 = .ok (.aload_n 0, 1) := by decide +kernel
theorem dMo_take_70 : decode cMo_take 70 = .ok (.getfield 91, 3) := by decide +kernel
theorem dMo_take_73 : decode cMo_take 73 = .ok (.iload_n 1, 1) := by decide +kernel
theorem dMo_take_74 : decode cMo_take 74 = .ok (.laload, 1) := by decide +kernel
theorem dMo_take_75 : decode cMo_take 75 = .ok (.lastore, 1) := by decide +kernel
theorem dMo_take_76 : decode cMo_take 76 = .ok (.aload_n 0, 1) := by decide +kernel
theorem dMo_take_77 : decode cMo_take 77 = .ok (.getfield 49, 3) := by decide +kernel
theorem dMo_take_80 : decode cMo_take 80 = .ok (.iload_n 2, 1) := by decide +kernel
theorem dMo_take_81 : decode cMo_take 81 = .ok (.aload_n 0, 1) := by decide +kernel
theorem dMo_take_82 : decode cMo_take 82 = .ok (.getfield 85, 3) := by decide +kernel
theorem dMo_take_85 : decode cMo_take 85 = .ok (.iload_n 1, 1) := by decide +kernel
theorem dMo_take_86 : decode cMo_take 86 = .ok (.iaload, 1) := by decide +kernel
theorem dMo_take_87 : decode cMo_take 87 = .ok (.iastore, 1) := by decide +kernel
theorem dMo_take_88 : decode cMo_take 88 = .ok (.goto 39, 3) := by decide +kernel
theorem dMo_take_91 : decode cMo_take 91 = .ok (.aload_n 0, 1) := by decide +kernel
theorem dMo_take_92 : decode cMo_take 92 = .ok (.getfield 52, 3) := by decide +kernel
theorem dMo_take_95 : decode cMo_take 95 = .ok (.iload_n 2, 1) := by decide +kernel
theorem dMo_take_96 : decode cMo_take 96 = .ok (.aload_n 0, 1) := by decide +kernel
theorem dMo_take_97 : decode cMo_take 97 = .ok (.getfield 91, 3) := by decide +kernel
theorem dMo_take_100 : decode cMo_take 100 = .ok (.iload_n 1, 1) := by decide +kernel
theorem dMo_take_101 : decode cMo_take 101 = .ok (.laload, 1) := by decide +kernel
theorem dMo_take_102 : decode cMo_take 102 = .ok (.lastore, 1) := by decide +kernel
theorem dMo_take_103 : decode cMo_take 103 = .ok (.aload_n 0, 1) := by decide +kernel
theorem dMo_take_104 : decode cMo_take 104 = .ok (.getfield 55, 3) := by decide +kernel
theorem dMo_take_107 : decode cMo_take 107 = .ok (.iload_n 2, 1) := by decide +kernel
theorem dMo_take_108 : decode cMo_take 108 = .ok (.aload_n 0, 1) := by decide +kernel
theorem dMo_take_109 : decode cMo_take 109 = .ok (.getfield 94, 3) := by decide +kernel
theorem dMo_take_112 : decode cMo_take 112 = .ok (.iload_n 1, 1) := by decide +kernel
theorem dMo_take_113 : decode cMo_take 113 = .ok (.laload, 1) := by decide +kernel
theorem dMo_take_114 : decode cMo_take 114 = .ok (.lastore, 1) := by decide +kernel
theorem dMo_take_115 : decode cMo_take 115 = .ok (.aload_n 0, 1) := by decide +kernel
theorem dMo_take_116 : decode cMo_take 116 = .ok (.getfield 58, 3) := by decide +kernel
theorem dMo_take_119 : decode cMo_take 119 = .ok (.iload_n 2, 1) := by decide +kernel
theorem dMo_take_120 : decode cMo_take 120 = .ok (.aload_n 0, 1) := by decide +kernel
theorem dMo_take_121 : decode cMo_take 121 = .ok (.getfield 85, 3) := by decide +kernel
theorem dMo_take_124 : decode cMo_take 124 = .ok (.iload_n 1, 1) := by decide +kernel
theorem dMo_take_125 : decode cMo_take 125 = .ok (.iaload, 1) := by decide +kernel
theorem dMo_take_126 : decode cMo_take 126 = .ok (.iastore, 1) := by decide +kernel
theorem dMo_take_127 : decode cMo_take 127 = .ok (.return_, 1) := by decide +kernel
theorem dMo_drop_0 : decode cMo_drop 0 = .ok (.aload_n 0, 1) := by decide +kernel
theorem dMo_drop_1 : decode cMo_drop 1 = .ok (.dup, 1) := by decide +kernel
theorem dMo_drop_2 : decode cMo_drop 2 = .ok (.getfield 121, 3) := by decide +kernel
theorem dMo_drop_5 : decode cMo_drop 5 = .ok (.iconst 1, 1) := by decide +kernel
theorem dMo_drop_6 : decode cMo_drop 6 = .ok (.isub, 1) := by decide +kernel
theorem dMo_drop_7 : decode cMo_drop 7 = .ok (.putfield 121, 3) := by decide +kernel
theorem dMo_drop_10 : decode cMo_drop 10 = .ok (.iload_n 1, 1) := by decide +kernel
theorem dMo_drop_11 : decode cMo_drop 11 = .ok (.istore_n 2, 1) := by decide +kernel
theorem dMo_drop_12 : decode cMo_drop 12 = .ok (.iload_n 2, 1) := by decide +kernel
theorem dMo_drop_13 : decode cMo_drop 13 = .ok (.aload_n 0, 1) := by decide +kernel
theorem dMo_drop_14 : decode cMo_drop 14 = .ok (.getfield 121, 3) := by decide +kernel
theorem dMo_drop_17 : decode cMo_drop 17 = .ok (.if_icmp .ge 93, 3) := by decide +kernel
theorem dMo_drop_20 : decode cMo_drop 20 = .ok (.aload_n 0, 1) := by decide +kernel
theorem dMo_drop_21 : decode cMo_drop 21 = .ok (.getfield 79, 3) := by decide +kernel
theorem dMo_drop_24 : decode cMo_drop 24 = .ok (.iload_n 2, 1) := by decide +kernel
theorem dMo_drop_25 : decode cMo_drop 25 = .ok (.aload_n 0, 1) := by decide +kernel
theorem dMo_drop_26 : decode cMo_drop 26 = .ok (.getfield 79, 3) := by decide +kernel
theorem dMo_drop_29 : decode cMo_drop 29 = .ok (.iload_n 2, 1) := by decide +kernel
theorem dMo_drop_30 : decode cMo_drop 30 = .ok (.iconst 1, 1) := by decide +kernel
theorem dMo_drop_31 : decode cMo_drop 31 = .ok (.iadd, 1) := by decide +kernel
theorem dMo_drop_32 : decode cMo_drop 32 = .ok (.baload, 1) := by decide +kernel
theorem dMo_drop_33 : decode cMo_drop 33 = .ok (.bastore, 1) := by decide +kernel
theorem dMo_drop_34 : decode cMo_drop 34 = .ok (.aload_n 0, 1) := by decide +kernel
theorem dMo_drop_35 : decode cMo_drop 35 = .ok (.getfield 82, 3) := by decide +kernel
theorem dMo_drop_38 : decode cMo_drop 38 = .ok (.iload_n 2, 1) := by decide +kernel
theorem dMo_drop_39 : decode cMo_drop 39 = .ok (.aload_n 0, 1) := by decide +kernel
theorem dMo_drop_40 : decode cMo_drop 40 = .ok (.getfield 82, 3) := by decide +kernel
theorem dMo_drop_43 : decode cMo_drop 43 = .ok (.iload_n 2, 1) := by decide +kernel
theorem dMo_drop_44 : decode cMo_drop 44 = .ok (.iconst 1, 1) := by decide +kernel
theorem dMo_drop_45 : decode cMo_drop 45 = .ok (.iadd, 1) := by decide +kernel
theorem dMo_drop_46 : decode cMo_drop 46 = .ok (.iaload, 1) := by decide +kernel
theorem dMo_drop_47 : decode cMo_drop 47 = .ok (.iastore, 1) := by decide +kernel
theorem dMo_drop_48 : decode cMo_drop 48 = .ok (.aload_n 0, 1) := by decide +kernel
theorem dMo_drop_49 : decode cMo_drop 49 = .ok (.getfield 85, 3) := by decide +kernel
theorem dMo_drop_52 : decode cMo_drop 52 = .ok (.iload_n 2, 1) := by decide +kernel
theorem dMo_drop_53 : decode cMo_drop 53 = .ok (.aload_n 0, 1) := by decide +kernel
theorem dMo_drop_54 : decode cMo_drop 54 = .ok (.getfield 85, 3) := by decide +kernel
theorem dMo_drop_57 : decode cMo_drop 57 = .ok (.iload_n 2, 1) := by decide +kernel
theorem dMo_drop_58 : decode cMo_drop 58 = .ok (.iconst 1, 1) := by decide +kernel
theorem dMo_drop_59 : decode cMo_drop 59 = .ok (.iadd, 1) := by decide +kernel
theorem dMo_drop_60 : decode cMo_drop 60 = .ok (.iaload, 1) := by decide +kernel
theorem dMo_drop_61 : decode cMo_drop 61 = .ok (.iastore, 1) := by decide +kernel
theorem dMo_drop_62 : decode cMo_drop 62 = .ok (.aload_n 0, 1) := by decide +kernel
theorem dMo_drop_63 : decode cMo_drop 63 = .ok (.getfield 88, 3) := by decide +kernel
theorem dMo_drop_66 : decode cMo_drop 66 = .ok (.iload_n 2, 1) := by decide +kernel
theorem dMo_drop_67 : decode cMo_drop 67 = .ok (.aload_n 0, 1) := by decide +kernel
theorem dMo_drop_68 : decode cMo_drop 68 = .ok (.getfield 88, 3) := by decide +kernel
theorem dMo_drop_71 : decode cMo_drop 71 = .ok (.iload_n 2, 1) := by decide +kernel
theorem dMo_drop_72 : decode cMo_drop 72 = .ok (.iconst 1, 1) := by decide +kernel
theorem dMo_drop_73 : decode cMo_drop 73 = .ok (.iadd, 1) := by decide +kernel
theorem dMo_drop_74 : decode cMo_drop 74 = .ok (.iaload, 1) := by decide +kernel
theorem dMo_drop_75 : decode cMo_drop 75 = .ok (.iastore, 1) := by decide +kernel
theorem dMo_drop_76 : decode cMo_drop 76 = .ok (.aload_n 0, 1) := by decide +kernel
theorem dMo_drop_77 : decode cMo_drop 77 = .ok (.getfield 91, 3) := by decide +kernel
theorem dMo_drop_80 : decode cMo_drop 80 = .ok (.iload_n 2, 1) := by decide +kernel
theorem dMo_drop_81 : decode cMo_drop 81 = .ok (.aload_n 0, 1) := by decide +kernel
theorem dMo_drop_82 : decode cMo_drop 82 = .ok (.getfield 91, 3) := by decide +kernel
theorem dMo_drop_85 : decode cMo_drop 85 = .ok (.iload_n 2, 1) := by decide +kernel
theorem dMo_drop_86 : decode cMo_drop 86 = .ok (.iconst 1, 1) := by decide +kernel
theorem dMo_drop_87 : decode cMo_drop 87 = .ok (.iadd, 1) := by decide +kernel
theorem dMo_drop_88 : decode cMo_drop 88 = .ok (.laload, 1) := by decide +kernel
theorem dMo_drop_89 : decode cMo_drop 89 = .ok (.lastore, 1) := by decide +kernel
theorem dMo_drop_90 : decode cMo_drop 90 = .ok (.aload_n 0, 1) := by decide +kernel
theorem dMo_drop_91 : decode cMo_drop 91 = .ok (.getfield 94, 3) := by decide +kernel
theorem dMo_drop_94 : decode cMo_drop 94 = .ok (.iload_n 2, 1) := by decide +kernel
theorem dMo_drop_95 : decode cMo_drop 95 = .ok (.aload_n 0, 1) := by decide +kernel
theorem dMo_drop_96 : decode cMo_drop 96 = .ok (.getfield 94, 3) := by decide +kernel
theorem dMo_drop_99 : decode cMo_drop 99 = .ok (.iload_n 2, 1) := by decide +kernel
theorem dMo_drop_100 : decode cMo_drop 100 = .ok (.iconst 1, 1) := by decide +kernel
theorem dMo_drop_101 : decode cMo_drop 101 = .ok (.iadd, 1) := by decide +kernel
theorem dMo_drop_102 : decode cMo_drop 102 = .ok (.laload, 1) := by decide +kernel
theorem dMo_drop_103 : decode cMo_drop 103 = .ok (.lastore, 1) := by decide +kernel
theorem dMo_drop_104 : decode cMo_drop 104 = .ok (.iinc 2 1, 3) := by decide +kernel
theorem dMo_drop_107 : decode cMo_drop 107 = .ok (.goto (-95), 3) := by decide +kernel
theorem dMo_drop_110 : decode cMo_drop 110 = .ok (.return_, 1) := by decide +kernel
theorem dMo_control_0 : decode cMo_control 0 = .ok (.iconst 0, 1) := by decide +kernel
theorem dMo_control_1 : decode cMo_control 1 = .ok (.istore_n 1, 1) := by decide +kernel
theorem dMo_control_2 : decode cMo_control 2 = .ok (.iload_n 1, 1) := by decide +kernel
theorem dMo_control_3 : decode cMo_control 3 = .ok (.aload_n 0, 1) := by decide +kernel
theorem dMo_control_4 : decode cMo_control 4 = .ok (.getfield 97, 3) := by decide +kernel
theorem dMo_control_7 : decode cMo_control 7 = .ok (.if_icmp .ge 67, 3) := by decide +kernel
theorem dMo_control_10 : decode cMo_control 10 = .ok (.aload_n 0, 1) := by decide +kernel
theorem dMo_control_11 : decode cMo_control 11 = .ok (.getfield 58, 3) := by decide +kernel
theorem dMo_control_14 : decode cMo_control 14 = .ok (.iload_n 1, 1) := by decide +kernel
theorem dMo_control_15 : decode cMo_control 15 = .ok (.iaload, 1) := by decide +kernel
theorem dMo_control_16 : decode cMo_control 16 = .ok (.ifCond .ne 6, 3) := by decide +kernel
theorem dMo_control_19 : decode cMo_control 19 = .ok (.goto 49, 3) := by decide +kernel
theorem dMo_control_22 : decode cMo_control 22 = .ok (.aload_n 0, 1) := by decide +kernel
theorem dMo_control_23 : decode cMo_control 23 = .ok (.getfield 52, 3) := by decide +kernel
theorem dMo_control_26 : decode cMo_control 26 = .ok (.iload_n 1, 1) := by decide +kernel
theorem dMo_control_27 : decode cMo_control 27 = .ok (.laload, 1) := by decide +kernel
theorem dMo_control_28 : decode cMo_control 28 = .ok (.ldc2_w 137, 3) := by decide +kernel
theorem dMo_control_31 : decode cMo_control 31 = .ok (.lcmp, 1) := by decide +kernel
theorem dMo_control_32 : decode cMo_control 32 = .ok (.ifCond .ge 7, 3) := by decide +kernel
theorem dMo_control_35 : decode cMo_control 35 = .ok (.iconst 0, 1) := by decide +kernel
theorem dMo_control_36 : decode cMo_control 36 = .ok (.goto 4, 3) := by decide +kernel
theorem dMo_control_39 : decode cMo_control 39 = .ok (.iconst 1, 1) := by decide +kernel
theorem dMo_control_40 : decode cMo_control 40 = .ok (.istore_n 2, 1) := by decide +kernel
theorem dMo_control_41 : decode cMo_control 41 = .ok (.aload_n 0, 1) := by decide +kernel
theorem dMo_control_42 : decode cMo_control 42 = .ok (.getfield 26, 3) := by decide +kernel
theorem dMo_control_45 : decode cMo_control 45 = .ok (.iload_n 2, 1) := by decide +kernel
theorem dMo_control_46 : decode cMo_control 46 = .ok (.baload, 1) := by decide +kernel
theorem dMo_control_47 : decode cMo_control 47 = .ok (.ifCond .ne 21, 3) := by decide +kernel
theorem dMo_control_50 : decode cMo_control 50 = .ok (.aload_n 0, 1) := by decide +kernel
theorem dMo_control_51 : decode cMo_control 51 = .ok (.iconst 1, 1) := by decide +kernel
theorem dMo_control_52 : decode cMo_control 52 = .ok (.iload_n 1, 1) := by decide +kernel
theorem dMo_control_53 : decode cMo_control 53 = .ok (.aload_n 0, 1) := by decide +kernel
theorem dMo_control_54 : decode cMo_control 54 = .ok (.getfield 70, 3) := by decide +kernel
theorem dMo_control_57 : decode cMo_control 57 = .ok (.iload_n 1, 1) := by decide +kernel
theorem dMo_control_58 : decode cMo_control 58 = .ok (.iaload, 1) := by decide +kernel
theorem dMo_control_59 : decode cMo_control 59 = .ok (.aload_n 0, 1) := by decide +kernel
theorem dMo_control_60 : decode cMo_control 60 = .ok (.iload_n 1, 1) := by decide +kernel
theorem dMo_control_61 : decode cMo_control 61 = .ok (.invokevirtual 139, 3) := by decide +kernel
theorem dMo_control_64 : decode cMo_control 64 = .ok (.lconst 0, 1) := by decide +kernel
theorem dMo_control_65 : decode cMo_control 65 = .ok (.invokevirtual 142, 3) := by decide +kernel
theorem dMo_control_68 : decode cMo_control 68 = .ok (.iinc 1 1, 3) := by decide +kernel
theorem dMo_control_71 : decode cMo_control 71 = .ok (.goto (-69), 3) := by decide +kernel
theorem dMo_control_74 : decode cMo_control 74 = .ok (.return_, 1) := by decide +kernel
theorem dMo_worked_0 : decode cMo_worked 0 = .ok (.ldc2_w 16, 3) := by decide +kernel
theorem dMo_worked_3 : decode cMo_worked 3 = .ok (.lstore_n 2, 1) := by decide +kernel
theorem dMo_worked_4 : decode cMo_worked 4 = .ok (.aload_n 0, 1) := by decide +kernel
theorem dMo_worked_5 : decode cMo_worked 5 = .ok (.getfield 52, 3) := by decide +kernel
theorem dMo_worked_8 : decode cMo_worked 8 = .ok (.iload_n 1, 1) := by decide +kernel
theorem dMo_worked_9 : decode cMo_worked 9 = .ok (.laload, 1) := by decide +kernel
theorem dMo_worked_10 : decode cMo_worked 10 = .ok (.lstore 4, 2) := by decide +kernel
theorem dMo_worked_12 : decode cMo_worked 12 = .ok (.iconst 0, 1) := by decide +kernel
theorem dMo_worked_13 : decode cMo_worked 13 = .ok (.istore 6, 2) := by decide +kernel
theorem dMo_worked_15 : decode cMo_worked 15 = .ok (.iload 6, 2) := by decide +kernel
theorem dMo_worked_17 : decode cMo_worked 17 = .ok (.iconst 4, 1) := by decide +kernel
theorem dMo_worked_18 : decode cMo_worked 18 = .ok (.if_icmp .ge 52, 3) := by decide +kernel
theorem dMo_worked_21 : decode cMo_worked 21 = .ok (.aload_n 0, 1) := by decide +kernel
theorem dMo_worked_22 : decode cMo_worked 22 = .ok (.getfield 22, 3) := by decide +kernel
theorem dMo_worked_25 : decode cMo_worked 25 = .ok (.iload 6, 2) := by decide +kernel
theorem dMo_worked_27 : decode cMo_worked 27 = .ok (.baload, 1) := by decide +kernel
theorem dMo_worked_28 : decode cMo_worked 28 = .ok (.ifCond .eq 36, 3) := by decide +kernel
theorem dMo_worked_31 : decode cMo_worked 31 = .ok (.aload_n 0, 1) := by decide +kernel
theorem dMo_worked_32 : decode cMo_worked 32 = .ok (.getfield 18, 3) := by decide +kernel
theorem dMo_worked_35 : decode cMo_worked 35 = .ok (.iload 6, 2) := by decide +kernel
theorem dMo_worked_37 : decode cMo_worked 37 = .ok (.laload, 1) := by decide +kernel
theorem dMo_worked_38 : decode cMo_worked 38 = .ok (.lload 4, 2) := by decide +kernel
theorem dMo_worked_40 : decode cMo_worked 40 = .ok (.lcmp, 1) := by decide +kernel
theorem dMo_worked_41 : decode cMo_worked 41 = .ok (.ifCond .lt 23, 3) := by decide +kernel
theorem dMo_worked_44 : decode cMo_worked 44 = .ok (.aload_n 0, 1) := by decide +kernel
theorem dMo_worked_45 : decode cMo_worked 45 = .ok (.getfield 18, 3) := by decide +kernel
theorem dMo_worked_48 : decode cMo_worked 48 = .ok (.iload 6, 2) := by decide +kernel
theorem dMo_worked_50 : decode cMo_worked 50 = .ok (.laload, 1) := by decide +kernel
theorem dMo_worked_51 : decode cMo_worked 51 = .ok (.lload_n 2, 1) := by decide +kernel
theorem dMo_worked_52 : decode cMo_worked 52 = .ok (.lcmp, 1) := by decide +kernel
theorem dMo_worked_53 : decode cMo_worked 53 = .ok (.ifCond .ge 11, 3) := by decide +kernel
theorem dMo_worked_56 : decode cMo_worked 56 = .ok (.aload_n 0, 1) := by decide +kernel
theorem dMo_worked_57 : decode cMo_worked 57 = .ok (.getfield 18, 3) := by decide +kernel
theorem dMo_worked_60 : decode cMo_worked 60 = .ok (.iload 6, 2) := by decide +kernel
theorem dMo_worked_62 : decode cMo_worked 62 = .ok (.laload, 1) := by decide +kernel
theorem dMo_worked_63 : decode cMo_worked 63 = .ok (.lstore_n 2, 1) := by decide +kernel
theorem dMo_worked_64 : decode cMo_worked 64 = .ok (.iinc 6 1, 3) := by decide +kernel
theorem dMo_worked_67 : decode cMo_worked 67 = .ok (.goto (-52), 3) := by decide +kernel
theorem dMo_worked_70 : decode cMo_worked 70 = .ok (.lload 4, 2) := by decide +kernel
theorem dMo_worked_72 : decode cMo_worked 72 = .ok (.ldc2_w 137, 3) := by decide +kernel
theorem dMo_worked_75 : decode cMo_worked 75 = .ok (.lcmp, 1) := by decide +kernel
theorem dMo_worked_76 : decode cMo_worked 76 = .ok (.ifCond .ge 24, 3) := by decide +kernel
theorem dMo_worked_79 : decode cMo_worked 79 = .ok (.aload_n 0, 1) := by decide +kernel
theorem dMo_worked_80 : decode cMo_worked 80 = .ok (.getfield 26, 3) := by decide +kernel
theorem dMo_worked_83 : decode cMo_worked 83 = .ok (.iconst 1, 1) := by decide +kernel
theorem dMo_worked_84 : decode cMo_worked 84 = .ok (.baload, 1) := by decide +kernel
theorem dMo_worked_85 : decode cMo_worked 85 = .ok (.ifCond .eq 15, 3) := by decide +kernel
theorem dMo_worked_88 : decode cMo_worked 88 = .ok (.lload_n 2, 1) := by decide +kernel
theorem dMo_worked_89 : decode cMo_worked 89 = .ok (.ldc2_w 137, 3) := by decide +kernel
theorem dMo_worked_92 : decode cMo_worked 92 = .ok (.lcmp, 1) := by decide +kernel
theorem dMo_worked_93 : decode cMo_worked 93 = .ok (.ifCond .le 7, 3) := by decide +kernel
theorem dMo_worked_96 : decode cMo_worked 96 = .ok (.ldc2_w 137, 3) := by decide +kernel
theorem dMo_worked_99 : decode cMo_worked 99 = .ok (.lstore_n 2, 1) := by decide +kernel
theorem dMo_worked_100 : decode cMo_worked 100 = .ok (.iconst 0, 1) := by decide +kernel
theorem dMo_worked_101 : decode cMo_worked 101 = .ok (.istore 6, 2) := by decide +kernel
theorem dMo_worked_103 : decode cMo_worked 103 = .ok (.iload 6, 2) := by decide +kernel
theorem dMo_worked_105 : decode cMo_worked 105 = .ok (.iload_n 1, 1) := by decide +kernel
theorem dMo_worked_106 : decode cMo_worked 106 = .ok (.if_icmp .ge 46, 3) := by decide +kernel
theorem dMo_worked_109 : decode cMo_worked 109 = .ok (.aload_n 0, 1) := by decide +kernel
theorem dMo_worked_110 : decode cMo_worked 110 = .ok (.getfield 58, 3) := by decide +kernel
theorem dMo_worked_113 : decode cMo_worked 113 = .ok (.iload 6, 2) := by decide +kernel
theorem dMo_worked_115 : decode cMo_worked 115 = .ok (.iaload, 1) := by decide +kernel
theorem dMo_worked_116 : decode cMo_worked 116 = .ok (.ifCond .ne 7, 3) := by decide +kernel
theorem dMo_worked_119 : decode cMo_worked 119 = .ok (.lconst 0, 1) := by decide +kernel
theorem dMo_worked_120 : decode cMo_worked 120 = .ok (.goto 14, 3) := by decide +kernel
theorem dMo_worked_123 : decode cMo_worked 123 = .ok (.aload_n 0, 1) := by decide +kernel
theorem dMo_worked_124 : decode cMo_worked 124 = .ok (.getfield 55, 3) := by decide +kernel
theorem dMo_worked_127 : decode cMo_worked 127 = .ok (.iload 6, 2) := by decide +kernel
theorem dMo_worked_129 : decode cMo_worked 129 = .ok (.laload, 1) := by decide +kernel
theorem dMo_worked_130 : decode cMo_worked 130 = .ok (.ldc2_w 112, 3) := by decide +kernel
theorem dMo_worked_133 : decode cMo_worked 133 = .ok (.lsub, 1) := by decide +kernel
theorem dMo_worked_134 : decode cMo_worked 134 = .ok (.lstore 7, 2) := by decide +kernel
theorem dMo_worked_136 : decode cMo_worked 136 = .ok (.lload 7, 2) := by decide +kernel
theorem dMo_worked_138 : decode cMo_worked 138 = .ok (.lload_n 2, 1) := by decide +kernel
theorem dMo_worked_139 : decode cMo_worked 139 = .ok (.lcmp, 1) := by decide +kernel
theorem dMo_worked_140 : decode cMo_worked 140 = .ok (.ifCond .ge 6, 3) := by decide +kernel
theorem dMo_worked_143 : decode cMo_worked 143 = .ok (.lload 7, 2) := by decide +kernel
theorem dMo_worked_145 : decode cMo_worked 145 = .ok (.lstore_n 2, 1) := by decide +kernel
theorem dMo_worked_146 : decode cMo_worked 146 = .ok (.iinc 6 1, 3) := by decide +kernel
theorem dMo_worked_149 : decode cMo_worked 149 = .ok (.goto (-46), 3) := by decide +kernel
theorem dMo_worked_152 : decode cMo_worked 152 = .ok (.lload_n 2, 1) := by decide +kernel
theorem dMo_worked_153 : decode cMo_worked 153 = .ok (.lreturn, 1) := by decide +kernel
theorem dMo_drive_0 : decode cMo_drive 0 = .ok (.aload_n 0, 1) := by decide +kernel
theorem dMo_drive_1 : decode cMo_drive 1 = .ok (.getfield 73, 3) := by decide +kernel
theorem dMo_drive_4 : decode cMo_drive 4 = .ok (.iload_n 1, 1) := by decide +kernel
theorem dMo_drive_5 : decode cMo_drive 5 = .ok (.baload, 1) := by decide +kernel
theorem dMo_drive_6 : decode cMo_drive 6 = .ok (.ifCond .ne 63, 3) := by decide +kernel
theorem dMo_drive_9 : decode cMo_drive 9 = .ok (.aload_n 0, 1) := by decide +kernel
theorem dMo_drive_10 : decode cMo_drive 10 = .ok (.getfield 35, 3) := by decide +kernel
theorem dMo_drive_13 : decode cMo_drive 13 = .ok (.iload_n 1, 1) := by decide +kernel
theorem dMo_drive_14 : decode cMo_drive 14 = .ok (.laload, 1) := by decide +kernel
theorem dMo_drive_15 : decode cMo_drive 15 = .ok (.lconst 0, 1) := by decide +kernel
theorem dMo_drive_16 : decode cMo_drive 16 = .ok (.lcmp, 1) := by decide +kernel
theorem dMo_drive_17 : decode cMo_drive 17 = .ok (.ifCond .le 52, 3) := by decide +kernel
theorem dMo_drive_20 : decode cMo_drive 20 = .ok (.aload_n 0, 1) := by decide +kernel
theorem dMo_drive_21 : decode cMo_drive 21 = .ok (.iload_n 1, 1) := by decide +kernel
theorem dMo_drive_22 : decode cMo_drive 22 = .ok (.invokevirtual 160, 3) := by decide +kernel
theorem dMo_drive_25 : decode cMo_drive 25 = .ok (.ifCond .ne 27, 3) := by decide +kernel
theorem dMo_drive_28 : decode cMo_drive 28 = .ok (.aload_n 0, 1) := by decide +kernel
theorem dMo_drive_29 : decode cMo_drive 29 = .ok (.iload_n 1, 1) := by decide +kernel
theorem dMo_drive_30 : decode cMo_drive 30 = .ok (.aload_n 0, 1) := by decide +kernel
theorem dMo_drive_31 : decode cMo_drive 31 = .ok (.getfield 35, 3) := by decide +kernel
theorem dMo_drive_34 : decode cMo_drive 34 = .ok (.iload_n 1, 1) := by decide +kernel
theorem dMo_drive_35 : decode cMo_drive 35 = .ok (.laload, 1) := by decide +kernel
theorem dMo_drive_36 : decode cMo_drive 36 = .ok (.aload_n 0, 1) := by decide +kernel
theorem dMo_drive_37 : decode cMo_drive 37 = .ok (.iload_n 1, 1) := by decide +kernel
theorem dMo_drive_38 : decode cMo_drive 38 = .ok (.invokevirtual 163, 3) := by decide +kernel
theorem dMo_drive_41 : decode cMo_drive 41 = .ok (.aload_n 0, 1) := by decide +kernel
theorem dMo_drive_42 : decode cMo_drive 42 = .ok (.iload_n 1, 1) := by decide +kernel
theorem dMo_drive_43 : decode cMo_drive 43 = .ok (.invokevirtual 166, 3) := by decide +kernel
theorem dMo_drive_46 : decode cMo_drive 46 = .ok (.invokevirtual 169, 3) := by decide +kernel
theorem dMo_drive_49 : decode cMo_drive 49 = .ok (.ifCond .ne 20, 3) := by decide +kernel
theorem dMo_drive_52 : decode cMo_drive 52 = .ok (.aload_n 0, 1) := by decide +kernel
theorem dMo_drive_53 : decode cMo_drive 53 = .ok (.getfield 73, 3) := by decide +kernel
theorem dMo_drive_56 : decode cMo_drive 56 = .ok (.iload_n 1, 1) := by decide +kernel
theorem dMo_drive_57 : decode cMo_drive 57 = .ok (.iconst 1, 1) := by decide +kernel
theorem dMo_drive_58 : decode cMo_drive 58 = .ok (.bastore, 1) := by decide +kernel
theorem dMo_drive_59 : decode cMo_drive 59 = .ok (.aload_n 0, 1) := by decide +kernel
theorem dMo_drive_60 : decode cMo_drive 60 = .ok (.getfield 76, 3) := by decide +kernel
theorem dMo_drive_63 : decode cMo_drive 63 = .ok (.iload_n 1, 1) := by decide +kernel
theorem dMo_drive_64 : decode cMo_drive 64 = .ok (.dup2, 1) := by decide +kernel
theorem dMo_drive_65 : decode cMo_drive 65 = .ok (.iaload, 1) := by decide +kernel
theorem dMo_drive_66 : decode cMo_drive 66 = .ok (.iconst 1, 1) := by decide +kernel
theorem dMo_drive_67 : decode cMo_drive 67 = .ok (.iadd, 1) := by decide +kernel
theorem dMo_drive_68 : decode cMo_drive 68 = .ok (.iastore, 1) := by decide +kernel
theorem dMo_drive_69 : decode cMo_drive 69 = .ok (.aload_n 0, 1) := by decide +kernel
theorem dMo_drive_70 : decode cMo_drive 70 = .ok (.iload_n 1, 1) := by decide +kernel
theorem dMo_drive_71 : decode cMo_drive 71 = .ok (.aload_n 0, 1) := by decide +kernel
theorem dMo_drive_72 : decode cMo_drive 72 = .ok (.iload_n 1, 1) := by decide +kernel
theorem dMo_drive_73 : decode cMo_drive 73 = .ok (.invokevirtual 173, 3) := by decide +kernel
theorem dMo_drive_76 : decode cMo_drive 76 = .ok (.invokevirtual 154, 3) := by decide +kernel
theorem dMo_drive_79 : decode cMo_drive 79 = .ok (.lstore_n 2, 1) := by decide +kernel
theorem dMo_drive_80 : decode cMo_drive 80 = .ok (.aload_n 0, 1) := by decide +kernel
theorem dMo_drive_81 : decode cMo_drive 81 = .ok (.getfield 35, 3) := by decide +kernel
theorem dMo_drive_84 : decode cMo_drive 84 = .ok (.iload_n 1, 1) := by decide +kernel
theorem dMo_drive_85 : decode cMo_drive 85 = .ok (.laload, 1) := by decide +kernel
theorem dMo_drive_86 : decode cMo_drive 86 = .ok (.lload_n 2, 1) := by decide +kernel
theorem dMo_drive_87 : decode cMo_drive 87 = .ok (.ladd, 1) := by decide +kernel
theorem dMo_drive_88 : decode cMo_drive 88 = .ok (.ldc2_w 158, 3) := by decide +kernel
theorem dMo_drive_91 : decode cMo_drive 91 = .ok (.ldiv, 1) := by decide +kernel
theorem dMo_drive_92 : decode cMo_drive 92 = .ok (.lstore 4, 2) := by decide +kernel
theorem dMo_drive_94 : decode cMo_drive 94 = .ok (.aload_n 0, 1) := by decide +kernel
theorem dMo_drive_95 : decode cMo_drive 95 = .ok (.getfield 32, 3) := by decide +kernel
theorem dMo_drive_98 : decode cMo_drive 98 = .ok (.iload_n 1, 1) := by decide +kernel
theorem dMo_drive_99 : decode cMo_drive 99 = .ok (.laload, 1) := by decide +kernel
theorem dMo_drive_100 : decode cMo_drive 100 = .ok (.invokestatic 150, 3) := by decide +kernel
theorem dMo_drive_103 : decode cMo_drive 103 = .ok (.istore 6, 2) := by decide +kernel
theorem dMo_drive_105 : decode cMo_drive 105 = .ok (.aload_n 0, 1) := by decide +kernel
theorem dMo_drive_106 : decode cMo_drive 106 = .ok (.getfield 35, 3) := by decide +kernel
theorem dMo_drive_109 : decode cMo_drive 109 = .ok (.iload_n 1, 1) := by decide +kernel
theorem dMo_drive_110 : decode cMo_drive 110 = .ok (.lload_n 2, 1) := by decide +kernel
theorem dMo_drive_111 : decode cMo_drive 111 = .ok (.lastore, 1) := by decide +kernel
theorem dMo_drive_112 : decode cMo_drive 112 = .ok (.aload_n 0, 1) := by decide +kernel
theorem dMo_drive_113 : decode cMo_drive 113 = .ok (.getfield 32, 3) := by decide +kernel
theorem dMo_drive_116 : decode cMo_drive 116 = .ok (.iload_n 1, 1) := by decide +kernel
theorem dMo_drive_117 : decode cMo_drive 117 = .ok (.dup2, 1) := by decide +kernel
theorem dMo_drive_118 : decode cMo_drive 118 = .ok (.laload, 1) := by decide +kernel
theorem dMo_drive_119 : decode cMo_drive 119 = .ok (.lload 4, 2) := by decide +kernel
theorem dMo_drive_121 : decode cMo_drive 121 = .ok (.ladd, 1) := by decide +kernel
theorem dMo_drive_122 : decode cMo_drive 122 = .ok (.lastore, 1) := by decide +kernel
theorem dMo_drive_123 : decode cMo_drive 123 = .ok (.lload 4, 2) := by decide +kernel
theorem dMo_drive_125 : decode cMo_drive 125 = .ok (.lconst 0, 1) := by decide +kernel
theorem dMo_drive_126 : decode cMo_drive 126 = .ok (.lcmp, 1) := by decide +kernel
theorem dMo_drive_127 : decode cMo_drive 127 = .ok (.ifCond .eq 34, 3) := by decide +kernel
theorem dMo_drive_130 : decode cMo_drive 130 = .ok (.aload_n 0, 1) := by decide +kernel
theorem dMo_drive_131 : decode cMo_drive 131 = .ok (.getfield 38, 3) := by decide +kernel
theorem dMo_drive_134 : decode cMo_drive 134 = .ok (.iload_n 1, 1) := by decide +kernel
theorem dMo_drive_135 : decode cMo_drive 135 = .ok (.dup2, 1) := by decide +kernel
theorem dMo_drive_136 : decode cMo_drive 136 = .ok (.laload, 1) := by decide +kernel
theorem dMo_drive_137 : decode cMo_drive 137 = .ok (.lload 4, 2) := by decide +kernel
theorem dMo_drive_139 : decode cMo_drive 139 = .ok (.aload_n 0, 1) := by decide +kernel
theorem dMo_drive_140 : decode cMo_drive 140 = .ok (.getfield 64, 3) := by decide +kernel
theorem dMo_drive_143 : decode cMo_drive 143 = .ok (.iload_n 1, 1) := by decide +kernel
theorem dMo_drive_144 : decode cMo_drive 144 = .ok (.iaload, 1) := by decide +kernel
theorem dMo_drive_145 : decode cMo_drive 145 = .ok (.i2l, 1) := by decide +kernel
theorem dMo_drive_146 : decode cMo_drive 146 = .ok (.ladd, 1) := by decide +kernel
theorem dMo_drive_147 : decode cMo_drive 147 = .ok (.ladd, 1) := by decide +kernel
theorem dMo_drive_148 : decode cMo_drive 148 = .ok (.lastore, 1) := by decide +kernel
theorem dMo_drive_149 : decode cMo_drive 149 = .ok (.aload_n 0, 1) := by decide +kernel
theorem dMo_drive_150 : decode cMo_drive 150 = .ok (.getfield 41, 3) := by decide +kernel
theorem dMo_drive_153 : decode cMo_drive 153 = .ok (.iload_n 1, 1) := by decide +kernel
theorem dMo_drive_154 : decode cMo_drive 154 = .ok (.dup2, 1) := by decide +kernel
theorem dMo_drive_155 : decode cMo_drive 155 = .ok (.laload, 1) := by decide +kernel
theorem dMo_drive_156 : decode cMo_drive 156 = .ok (.ldc2_w 158, 3) := by decide +kernel
theorem dMo_drive_159 : decode cMo_drive 159 = .ok (.ladd, 1) := by decide +kernel
theorem dMo_drive_160 : decode cMo_drive 160 = .ok (.lastore, 1) := by decide +kernel
theorem dMo_drive_161 : decode cMo_drive 161 = .ok (.aload_n 0, 1) := by decide +kernel
theorem dMo_drive_162 : decode cMo_drive 162 = .ok (.getfield 32, 3) := by decide +kernel
theorem dMo_drive_165 : decode cMo_drive 165 = .ok (.iload_n 1, 1) := by decide +kernel
theorem dMo_drive_166 : decode cMo_drive 166 = .ok (.laload, 1) := by decide +kernel
theorem dMo_drive_167 : decode cMo_drive 167 = .ok (.invokestatic 150, 3) := by decide +kernel
theorem dMo_drive_170 : decode cMo_drive 170 = .ok (.iload 6, 2) := by decide +kernel
theorem dMo_drive_172 : decode cMo_drive 172 = .ok (.if_icmp .eq 22, 3) := by decide +kernel
theorem dMo_drive_175 : decode cMo_drive 175 = .ok (.aload_n 0, 1) := by decide +kernel
theorem dMo_drive_176 : decode cMo_drive 176 = .ok (.getfield 38, 3) := by decide +kernel
theorem dMo_drive_179 : decode cMo_drive 179 = .ok (.iload_n 1, 1) := by decide +kernel
theorem dMo_drive_180 : decode cMo_drive 180 = .ok (.aload_n 0, 1) := by decide +kernel
theorem dMo_drive_181 : decode cMo_drive 181 = .ok (.getfield 32, 3) := by decide +kernel
theorem dMo_drive_184 : decode cMo_drive 184 = .ok (.iload_n 1, 1) := by decide +kernel
theorem dMo_drive_185 : decode cMo_drive 185 = .ok (.laload, 1) := by decide +kernel
theorem dMo_drive_186 : decode cMo_drive 186 = .ok (.lastore, 1) := by decide +kernel
theorem dMo_drive_187 : decode cMo_drive 187 = .ok (.aload_n 0, 1) := by decide +kernel
theorem dMo_drive_188 : decode cMo_drive 188 = .ok (.getfield 41, 3) := by decide +kernel
theorem dMo_drive_191 : decode cMo_drive 191 = .ok (.iload_n 1, 1) := by decide +kernel
theorem dMo_drive_192 : decode cMo_drive 192 = .ok (.lconst 0, 1) := by decide +kernel
theorem dMo_drive_193 : decode cMo_drive 193 = .ok (.lastore, 1) := by decide +kernel
theorem dMo_drive_194 : decode cMo_drive 194 = .ok (.lload_n 2, 1) := by decide +kernel
theorem dMo_drive_195 : decode cMo_drive 195 = .ok (.lconst 0, 1) := by decide +kernel
theorem dMo_drive_196 : decode cMo_drive 196 = .ok (.lcmp, 1) := by decide +kernel
theorem dMo_drive_197 : decode cMo_drive 197 = .ok (.ifCond .ne 10, 3) := by decide +kernel
theorem dMo_drive_200 : decode cMo_drive 200 = .ok (.aload_n 0, 1) := by decide +kernel
theorem dMo_drive_201 : decode cMo_drive 201 = .ok (.getfield 73, 3) := by decide +kernel
theorem dMo_drive_204 : decode cMo_drive 204 = .ok (.iload_n 1, 1) := by decide +kernel
theorem dMo_drive_205 : decode cMo_drive 205 = .ok (.iconst 0, 1) := by decide +kernel
theorem dMo_drive_206 : decode cMo_drive 206 = .ok (.bastore, 1) := by decide +kernel
theorem dMo_drive_207 : decode cMo_drive 207 = .ok (.return_, 1) := by decide +kernel
theorem dMo_old_0 : decode cMo_old 0 = .ok (.aload_n 0, 1) := by decide +kernel
theorem dMo_old_1 : decode cMo_old 1 = .ok (.getfield 49, 3) := by decide +kernel
theorem dMo_old_4 : decode cMo_old 4 = .ok (.iload_n 1, 1) := by decide +kernel
theorem dMo_old_5 : decode cMo_old 5 = .ok (.iaload, 1) := by decide +kernel
theorem dMo_old_6 : decode cMo_old 6 = .ok (.ifCond .eq 18, 3) := by decide +kernel
theorem dMo_old_9 : decode cMo_old 9 = .ok (.aload_n 0, 1) := by decide +kernel
theorem dMo_old_10 : decode cMo_old 10 = .ok (.getfield 124, 3) := by decide +kernel
theorem dMo_old_13 : decode cMo_old 13 = .ok (.aload_n 0, 1) := by decide +kernel
theorem dMo_old_14 : decode cMo_old 14 = .ok (.getfield 49, 3) := by decide +kernel
theorem dMo_old_17 : decode cMo_old 17 = .ok (.iload_n 1, 1) := by decide +kernel
theorem dMo_old_18 : decode cMo_old 18 = .ok (.iaload, 1) := by decide +kernel
theorem dMo_old_19 : decode cMo_old 19 = .ok (.isub, 1) := by decide +kernel
theorem dMo_old_20 : decode cMo_old 20 = .ok (.iconst 5, 1) := by decide +kernel
theorem dMo_old_21 : decode cMo_old 21 = .ok (.if_icmp .le 7, 3) := by decide +kernel
theorem dMo_old_24 : decode cMo_old 24 = .ok (.iconst 1, 1) := by decide +kernel
theorem dMo_old_25 : decode cMo_old 25 = .ok (.goto 4, 3) := by decide +kernel
theorem dMo_old_28 : decode cMo_old 28 = .ok (.iconst 0, 1) := by decide +kernel
theorem dMo_old_29 : decode cMo_old 29 = .ok (.ireturn, 1) := by decide +kernel
theorem dMo_safe_0 : decode cMo_safe 0 = .ok (.aload_n 0, 1) := by decide +kernel
theorem dMo_safe_1 : decode cMo_safe 1 = .ok (.getfield 49, 3) := by decide +kernel
theorem dMo_safe_4 : decode cMo_safe 4 = .ok (.iload_n 1, 1) := by decide +kernel
theorem dMo_safe_5 : decode cMo_safe 5 = .ok (.iaload, 1) := by decide +kernel
theorem dMo_safe_6 : decode cMo_safe 6 = .ok (.ifCond .eq 23, 3) := by decide +kernel
theorem dMo_safe_9 : decode cMo_safe 9 = .ok (.lload_n 2, 1) := by decide +kernel
theorem dMo_safe_10 : decode cMo_safe 10 = .ok (.lload_n 2, 1) := by decide +kernel
theorem dMo_safe_11 : decode cMo_safe 11 = .ok (.lmul, 1) := by decide +kernel
theorem dMo_safe_12 : decode cMo_safe 12 = .ok (.ldc2_w 148, 3) := by decide +kernel
theorem dMo_safe_15 : decode cMo_safe 15 = .ok (.aload_n 0, 1) := by decide +kernel
theorem dMo_safe_16 : decode cMo_safe 16 = .ok (.getfield 46, 3) := by decide +kernel
theorem dMo_safe_19 : decode cMo_safe 19 = .ok (.iload_n 1, 1) := by decide +kernel
theorem dMo_safe_20 : decode cMo_safe 20 = .ok (.laload, 1) := by decide +kernel
theorem dMo_safe_21 : decode cMo_safe 21 = .ok (.lload 4, 2) := by decide +kernel
theorem dMo_safe_23 : decode cMo_safe 23 = .ok (.lsub, 1) := by decide +kernel
theorem dMo_safe_24 : decode cMo_safe 24 = .ok (.lmul, 1) := by decide +kernel
theorem dMo_safe_25 : decode cMo_safe 25 = .ok (.lcmp, 1) := by decide +kernel
theorem dMo_safe_26 : decode cMo_safe 26 = .ok (.ifCond .le 5, 3) := by decide +kernel
theorem dMo_safe_29 : decode cMo_safe 29 = .ok (.iconst 0, 1) := by decide +kernel
theorem dMo_safe_30 : decode cMo_safe 30 = .ok (.ireturn, 1) := by decide +kernel
theorem dMo_safe_31 : decode cMo_safe 31 = .ok (.lload 6, 2) := by decide +kernel
theorem dMo_safe_33 : decode cMo_safe 33 = .ok (.invokestatic 150, 3) := by decide +kernel
theorem dMo_safe_36 : decode cMo_safe 36 = .ok (.istore 8, 2) := by decide +kernel
theorem dMo_safe_38 : decode cMo_safe 38 = .ok (.iload 8, 2) := by decide +kernel
theorem dMo_safe_40 : decode cMo_safe 40 = .ok (.bipush 8, 2) := by decide +kernel
theorem dMo_safe_42 : decode cMo_safe 42 = .ok (.if_icmp .ge 88, 3) := by decide +kernel
theorem dMo_safe_45 : decode cMo_safe 45 = .ok (.ldc2_w 106, 3) := by decide +kernel
theorem dMo_safe_48 : decode cMo_safe 48 = .ok (.aload_n 0, 1) := by decide +kernel
theorem dMo_safe_49 : decode cMo_safe 49 = .ok (.getfield 7, 3) := by decide +kernel
theorem dMo_safe_52 : decode cMo_safe 52 = .ok (.iload 8, 2) := by decide +kernel
theorem dMo_safe_54 : decode cMo_safe 54 = .ok (.iaload, 1) := by decide +kernel
theorem dMo_safe_55 : decode cMo_safe 55 = .ok (.i2l, 1) := by decide +kernel
theorem dMo_safe_56 : decode cMo_safe 56 = .ok (.lmul, 1) := by decide +kernel
theorem dMo_safe_57 : decode cMo_safe 57 = .ok (.lstore 9, 2) := by decide +kernel
theorem dMo_safe_59 : decode cMo_safe 59 = .ok (.iload 8, 2) := by decide +kernel
theorem dMo_safe_61 : decode cMo_safe 61 = .ok (.lload 4, 2) := by decide +kernel
theorem dMo_safe_63 : decode cMo_safe 63 = .ok (.invokestatic 150, 3) := by decide +kernel
theorem dMo_safe_66 : decode cMo_safe 66 = .ok (.if_icmp .le 7, 3) := by decide +kernel
theorem dMo_safe_69 : decode cMo_safe 69 = .ok (.iconst 1, 1) := by decide +kernel
theorem dMo_safe_70 : decode cMo_safe 70 = .ok (.goto 4, 3) := by decide +kernel
theorem dMo_safe_73 : decode cMo_safe 73 = .ok (.iconst 0, 1) := by decide +kernel
theorem dMo_safe_74 : decode cMo_safe 74 = .ok (.istore 11, 2) := by decide +kernel
theorem dMo_safe_76 : decode cMo_safe 76 = .ok (.iload 11, 2) := by decide +kernel
theorem dMo_safe_78 : decode cMo_safe 78 = .ok (.ifCond .ne 12, 3) := by decide +kernel
theorem dMo_safe_81 : decode cMo_safe 81 = .ok (.lload_n 2, 1) := by decide +kernel
theorem dMo_safe_82 : decode cMo_safe 82 = .ok (.lload 9, 2) := by decide +kernel
theorem dMo_safe_84 : decode cMo_safe 84 = .ok (.lcmp, 1) := by decide +kernel
theorem dMo_safe_85 : decode cMo_safe 85 = .ok (.ifCond .le 5, 3) := by decide +kernel
theorem dMo_safe_88 : decode cMo_safe 88 = .ok (.iconst 0, 1) := by decide +kernel
theorem dMo_safe_89 : decode cMo_safe 89 = .ok (.ireturn, 1) := by decide +kernel
theorem dMo_safe_90 : decode cMo_safe 90 = .ok (.iload 11, 2) := by decide +kernel
theorem dMo_safe_92 : decode cMo_safe 92 = .ok (.ifCond .eq 32, 3) := by decide +kernel
theorem dMo_safe_95 : decode cMo_safe 95 = .ok (.lload_n 2, 1) := by decide +kernel
theorem dMo_safe_96 : decode cMo_safe 96 = .ok (.lload_n 2, 1) := by decide +kernel
theorem dMo_safe_97 : decode cMo_safe 97 = .ok (.lmul, 1) := by decide +kernel
theorem dMo_safe_98 : decode cMo_safe 98 = .ok (.lload 9, 2) := by decide +kernel
theorem dMo_safe_100 : decode cMo_safe 100 = .ok (.lload 9, 2) := by decide +kernel
theorem dMo_safe_102 : decode cMo_safe 102 = .ok (.lmul, 1) := by decide +kernel
theorem dMo_safe_103 : decode cMo_safe 103 = .ok (.ldc2_w 148, 3) := by decide +kernel
theorem dMo_safe_106 : decode cMo_safe 106 = .ok (.ldc2_w 146, 3) := by decide +kernel
theorem dMo_safe_109 : decode cMo_safe 109 = .ok (.iload 8, 2) := by decide +kernel
theorem dMo_safe_111 : decode cMo_safe 111 = .ok (.i2l, 1) := by decide +kernel
theorem dMo_safe_112 : decode cMo_safe 112 = .ok (.lmul, 1) := by decide +kernel
theorem dMo_safe_113 : decode cMo_safe 113 = .ok (.lload 4, 2) := by decide +kernel
theorem dMo_safe_115 : decode cMo_safe 115 = .ok (.lsub, 1) := by decide +kernel
theorem dMo_safe_116 : decode cMo_safe 116 = .ok (.lmul, 1) := by decide +kernel
theorem dMo_safe_117 : decode cMo_safe 117 = .ok (.ladd, 1) := by decide +kernel
theorem dMo_safe_118 : decode cMo_safe 118 = .ok (.lcmp, 1) := by decide +kernel
theorem dMo_safe_119 : decode cMo_safe 119 = .ok (.ifCond .le 5, 3) := by decide +kernel
theorem dMo_safe_122 : decode cMo_safe 122 = .ok (.iconst 0, 1) := by decide +kernel
theorem dMo_safe_123 : decode cMo_safe 123 = .ok (.ireturn, 1) := by decide +kernel
theorem dMo_safe_124 : decode cMo_safe 124 = .ok (.iinc 8 1, 3) := by decide +kernel
theorem dMo_safe_127 : decode cMo_safe 127 = .ok (.goto (-89), 3) := by decide +kernel
theorem dMo_safe_130 : decode cMo_safe 130 = .ok (.iconst 1, 1) := by decide +kernel
theorem dMo_safe_131 : decode cMo_safe 131 = .ok (.ireturn, 1) := by decide +kernel
theorem dMo_pieceOf_0 : decode cMo_pieceOf 0 = .ok (.lload_n 0, 1) := by decide +kernel
theorem dMo_pieceOf_1 : decode cMo_pieceOf 1 = .ok (.lconst 0, 1) := by decide +kernel
theorem dMo_pieceOf_2 : decode cMo_pieceOf 2 = .ok (.lcmp, 1) := by decide +kernel
theorem dMo_pieceOf_3 : decode cMo_pieceOf 3 = .ok (.ifCond .ge 7, 3) := by decide +kernel
theorem dMo_pieceOf_6 : decode cMo_pieceOf 6 = .ok (.iconst 0, 1) := by decide +kernel
theorem dMo_pieceOf_7 : decode cMo_pieceOf 7 = .ok (.goto 22, 3) := by decide +kernel
theorem dMo_pieceOf_10 : decode cMo_pieceOf 10 = .ok (.lload_n 0, 1) := by decide +kernel
theorem dMo_pieceOf_11 : decode cMo_pieceOf 11 = .ok (.ldc2_w 16, 3) := by decide +kernel
theorem dMo_pieceOf_14 : decode cMo_pieceOf 14 = .ok (.lcmp, 1) := by decide +kernel
theorem dMo_pieceOf_15 : decode cMo_pieceOf 15 = .ok (.ifCond .lt 8, 3) := by decide +kernel
theorem dMo_pieceOf_18 : decode cMo_pieceOf 18 = .ok (.bipush 7, 2) := by decide +kernel
theorem dMo_pieceOf_20 : decode cMo_pieceOf 20 = .ok (.goto 9, 3) := by decide +kernel
theorem dMo_pieceOf_23 : decode cMo_pieceOf 23 = .ok (.lload_n 0, 1) := by decide +kernel
theorem dMo_pieceOf_24 : decode cMo_pieceOf 24 = .ok (.ldc2_w 146, 3) := by decide +kernel
theorem dMo_pieceOf_27 : decode cMo_pieceOf 27 = .ok (.ldiv, 1) := by decide +kernel
theorem dMo_pieceOf_28 : decode cMo_pieceOf 28 = .ok (.l2i, 1) := by decide +kernel
theorem dMo_pieceOf_29 : decode cMo_pieceOf 29 = .ok (.ireturn, 1) := by decide +kernel
theorem dMo_pull_0 : decode cMo_pull 0 = .ok (.aload_n 0, 1) := by decide +kernel
theorem dMo_pull_1 : decode cMo_pull 1 = .ok (.getfield 73, 3) := by decide +kernel
theorem dMo_pull_4 : decode cMo_pull 4 = .ok (.iload_n 1, 1) := by decide +kernel
theorem dMo_pull_5 : decode cMo_pull 5 = .ok (.baload, 1) := by decide +kernel
theorem dMo_pull_6 : decode cMo_pull 6 = .ok (.ifCond .eq 6, 3) := by decide +kernel
theorem dMo_pull_9 : decode cMo_pull 9 = .ok (.bipush (-12), 2) := by decide +kernel
theorem dMo_pull_11 : decode cMo_pull 11 = .ok (.ireturn, 1) := by decide +kernel
theorem dMo_pull_12 : decode cMo_pull 12 = .ok (.aload_n 0, 1) := by decide +kernel
theorem dMo_pull_13 : decode cMo_pull 13 = .ok (.getfield 61, 3) := by decide +kernel
theorem dMo_pull_16 : decode cMo_pull 16 = .ok (.iload_n 1, 1) := by decide +kernel
theorem dMo_pull_17 : decode cMo_pull 17 = .ok (.iaload, 1) := by decide +kernel
theorem dMo_pull_18 : decode cMo_pull 18 = .ok (.ifCond .ge 6, 3) := by decide +kernel
theorem dMo_pull_21 : decode cMo_pull 21 = .ok (.bipush (-8), 2) := by decide +kernel
theorem dMo_pull_23 : decode cMo_pull 23 = .ok (.ireturn, 1) := by decide +kernel
theorem dMo_pull_24 : decode cMo_pull 24 = .ok (.aload_n 0, 1) := by decide +kernel
theorem dMo_pull_25 : decode cMo_pull 25 = .ok (.getfield 61, 3) := by decide +kernel
theorem dMo_pull_28 : decode cMo_pull 28 = .ok (.iload_n 1, 1) := by decide +kernel
theorem dMo_pull_29 : decode cMo_pull 29 = .ok (.iaload, 1) := by decide +kernel
theorem dMo_pull_30 : decode cMo_pull 30 = .ok (.iconst 1, 1) := by decide +kernel
theorem dMo_pull_31 : decode cMo_pull 31 = .ok (.if_icmp .ne 7, 3) := by decide +kernel
theorem dMo_pull_34 : decode cMo_pull 34 = .ok (.iconst 4, 1) := by decide +kernel
theorem dMo_pull_35 : decode cMo_pull 35 = .ok (.goto 4, 3) := by decide +kernel
theorem dMo_pull_38 : decode cMo_pull 38 = .ok (.iconst 0, 1) := by decide +kernel
theorem dMo_pull_39 : decode cMo_pull 39 = .ok (.istore_n 2, 1) := by decide +kernel
theorem dMo_pull_40 : decode cMo_pull 40 = .ok (.aload_n 0, 1) := by decide +kernel
theorem dMo_pull_41 : decode cMo_pull 41 = .ok (.iload_n 1, 1) := by decide +kernel
theorem dMo_pull_42 : decode cMo_pull 42 = .ok (.iload_n 2, 1) := by decide +kernel
theorem dMo_pull_43 : decode cMo_pull 43 = .ok (.invokevirtual 154, 3) := by decide +kernel
theorem dMo_pull_46 : decode cMo_pull 46 = .ok (.lstore_n 3, 1) := by decide +kernel
theorem dMo_pull_47 : decode cMo_pull 47 = .ok (.aload_n 0, 1) := by decide +kernel
theorem dMo_pull_48 : decode cMo_pull 48 = .ok (.getfield 35, 3) := by decide +kernel
theorem dMo_pull_51 : decode cMo_pull 51 = .ok (.iload_n 1, 1) := by decide +kernel
theorem dMo_pull_52 : decode cMo_pull 52 = .ok (.laload, 1) := by decide +kernel
theorem dMo_pull_53 : decode cMo_pull 53 = .ok (.lload_n 3, 1) := by decide +kernel
theorem dMo_pull_54 : decode cMo_pull 54 = .ok (.ladd, 1) := by decide +kernel
theorem dMo_pull_55 : decode cMo_pull 55 = .ok (.ldc2_w 158, 3) := by decide +kernel
theorem dMo_pull_58 : decode cMo_pull 58 = .ok (.ldiv, 1) := by decide +kernel
theorem dMo_pull_59 : decode cMo_pull 59 = .ok (.lstore 5, 2) := by decide +kernel
theorem dMo_pull_61 : decode cMo_pull 61 = .ok (.lload 5, 2) := by decide +kernel
theorem dMo_pull_63 : decode cMo_pull 63 = .ok (.lconst 0, 1) := by decide +kernel
theorem dMo_pull_64 : decode cMo_pull 64 = .ok (.lcmp, 1) := by decide +kernel
theorem dMo_pull_65 : decode cMo_pull 65 = .ok (.ifCond .ne 7, 3) := by decide +kernel
theorem dMo_pull_68 : decode cMo_pull 68 = .ok (.lconst 0, 1) := by decide +kernel
theorem dMo_pull_69 : decode cMo_pull 69 = .ok (.goto 6, 3) := by decide +kernel
theorem dMo_pull_72 : decode cMo_pull 72 = .ok (.ldc2_w 158, 3) := by decide +kernel
theorem dMo_pull_75 : decode cMo_pull 75 = .ok (.lstore 7, 2) := by decide +kernel
theorem dMo_pull_77 : decode cMo_pull 77 = .ok (.aload_n 0, 1) := by decide +kernel
theorem dMo_pull_78 : decode cMo_pull 78 = .ok (.iload_n 1, 1) := by decide +kernel
theorem dMo_pull_79 : decode cMo_pull 79 = .ok (.invokevirtual 160, 3) := by decide +kernel
theorem dMo_pull_82 : decode cMo_pull 82 = .ok (.ifCond .ne 38, 3) := by decide +kernel
theorem dMo_pull_85 : decode cMo_pull 85 = .ok (.aload_n 0, 1) := by decide +kernel
theorem dMo_pull_86 : decode cMo_pull 86 = .ok (.iload_n 1, 1) := by decide +kernel
theorem dMo_pull_87 : decode cMo_pull 87 = .ok (.lload_n 3, 1) := by decide +kernel
theorem dMo_pull_88 : decode cMo_pull 88 = .ok (.aload_n 0, 1) := by decide +kernel
theorem dMo_pull_89 : decode cMo_pull 89 = .ok (.iload_n 1, 1) := by decide +kernel
theorem dMo_pull_90 : decode cMo_pull 90 = .ok (.invokevirtual 163, 3) := by decide +kernel
theorem dMo_pull_93 : decode cMo_pull 93 = .ok (.lload 5, 2) := by decide +kernel
theorem dMo_pull_95 : decode cMo_pull 95 = .ok (.ladd, 1) := by decide +kernel
theorem dMo_pull_96 : decode cMo_pull 96 = .ok (.lload 7, 2) := by decide +kernel
theorem dMo_pull_98 : decode cMo_pull 98 = .ok (.ladd, 1) := by decide +kernel
theorem dMo_pull_99 : decode cMo_pull 99 = .ok (.aload_n 0, 1) := by decide +kernel
theorem dMo_pull_100 : decode cMo_pull 100 = .ok (.iload_n 1, 1) := by decide +kernel
theorem dMo_pull_101 : decode cMo_pull 101 = .ok (.invokevirtual 166, 3) := by decide +kernel
theorem dMo_pull_104 : decode cMo_pull 104 = .ok (.lload 5, 2) := by decide +kernel
theorem dMo_pull_106 : decode cMo_pull 106 = .ok (.ladd, 1) := by decide +kernel
theorem dMo_pull_107 : decode cMo_pull 107 = .ok (.lload 7, 2) := by decide +kernel
theorem dMo_pull_109 : decode cMo_pull 109 = .ok (.lsub, 1) := by decide +kernel
theorem dMo_pull_110 : decode cMo_pull 110 = .ok (.invokevirtual 169, 3) := by decide +kernel
theorem dMo_pull_113 : decode cMo_pull 113 = .ok (.ifCond .eq 7, 3) := by decide +kernel
theorem dMo_pull_116 : decode cMo_pull 116 = .ok (.iconst 1, 1) := by decide +kernel
theorem dMo_pull_117 : decode cMo_pull 117 = .ok (.goto 4, 3) := by decide +kernel
theorem dMo_pull_120 : decode cMo_pull 120 = .ok (.iconst 0, 1) := by decide +kernel
theorem dMo_pull_121 : decode cMo_pull 121 = .ok (.istore 9, 2) := by decide +kernel
theorem dMo_pull_123 : decode cMo_pull 123 = .ok (.iload 9, 2) := by decide +kernel
theorem dMo_pull_125 : decode cMo_pull 125 = .ok (.ifCond .eq 7, 3) := by decide +kernel
theorem dMo_pull_128 : decode cMo_pull 128 = .ok (.iload_n 2, 1) := by decide +kernel
theorem dMo_pull_129 : decode cMo_pull 129 = .ok (.goto 5, 3) := by decide +kernel
theorem dMo_pull_132 : decode cMo_pull 132 = .ok (.bipush (-8), 2) := by decide +kernel
theorem dMo_pull_134 : decode cMo_pull 134 = .ok (.ireturn, 1) := by decide +kernel
theorem dMo_next_0 : decode cMo_next 0 = .ok (.aload_n 0, 1) := by decide +kernel
theorem dMo_next_1 : decode cMo_next 1 = .ok (.getfield 35, 3) := by decide +kernel
theorem dMo_next_4 : decode cMo_next 4 = .ok (.iload_n 1, 1) := by decide +kernel
theorem dMo_next_5 : decode cMo_next 5 = .ok (.laload, 1) := by decide +kernel
theorem dMo_next_6 : decode cMo_next 6 = .ok (.iload_n 2, 1) := by decide +kernel
theorem dMo_next_7 : decode cMo_next 7 = .ok (.i2l, 1) := by decide +kernel
theorem dMo_next_8 : decode cMo_next 8 = .ok (.ladd, 1) := by decide +kernel
theorem dMo_next_9 : decode cMo_next 9 = .ok (.iconst 2, 1) := by decide +kernel
theorem dMo_next_10 : decode cMo_next 10 = .ok (.aload_n 0, 1) := by decide +kernel
theorem dMo_next_11 : decode cMo_next 11 = .ok (.getfield 13, 3) := by decide +kernel
theorem dMo_next_14 : decode cMo_next 14 = .ok (.aload_n 0, 1) := by decide +kernel
theorem dMo_next_15 : decode cMo_next 15 = .ok (.getfield 32, 3) := by decide +kernel
theorem dMo_next_18 : decode cMo_next 18 = .ok (.iload_n 1, 1) := by decide +kernel
theorem dMo_next_19 : decode cMo_next 19 = .ok (.laload, 1) := by decide +kernel
theorem dMo_next_20 : decode cMo_next 20 = .ok (.invokestatic 150, 3) := by decide +kernel
theorem dMo_next_23 : decode cMo_next 23 = .ok (.iaload, 1) := by decide +kernel
theorem dMo_next_24 : decode cMo_next 24 = .ok (.imul, 1) := by decide +kernel
theorem dMo_next_25 : decode cMo_next 25 = .ok (.i2l, 1) := by decide +kernel
theorem dMo_next_26 : decode cMo_next 26 = .ok (.lsub, 1) := by decide +kernel
theorem dMo_next_27 : decode cMo_next 27 = .ok (.lstore_n 3, 1) := by decide +kernel
theorem dMo_next_28 : decode cMo_next 28 = .ok (.lload_n 3, 1) := by decide +kernel
theorem dMo_next_29 : decode cMo_next 29 = .ok (.lconst 0, 1) := by decide +kernel
theorem dMo_next_30 : decode cMo_next 30 = .ok (.lcmp, 1) := by decide +kernel
theorem dMo_next_31 : decode cMo_next 31 = .ok (.ifCond .ge 7, 3) := by decide +kernel
theorem dMo_next_34 : decode cMo_next 34 = .ok (.lconst 0, 1) := by decide +kernel
theorem dMo_next_35 : decode cMo_next 35 = .ok (.goto 4, 3) := by decide +kernel
theorem dMo_next_38 : decode cMo_next 38 = .ok (.lload_n 3, 1) := by decide +kernel
theorem dMo_next_39 : decode cMo_next 39 = .ok (.lreturn, 1) := by decide +kernel
theorem dMo_measure_0 : decode cMo_measure 0 = .ok (.aload_n 0, 1) := by decide +kernel
theorem dMo_measure_1 : decode cMo_measure 1 = .ok (.iload_n 1, 1) := by decide +kernel
theorem dMo_measure_2 : decode cMo_measure 2 = .ok (.invokevirtual 114, 3) := by decide +kernel
theorem dMo_measure_5 : decode cMo_measure 5 = .ok (.ifCond .eq 6, 3) := by decide +kernel
theorem dMo_measure_8 : decode cMo_measure 8 = .ok (.ldc 105, 2) := by decide +kernel
theorem dMo_measure_10 : decode cMo_measure 10 = .ok (.ireturn, 1) := by decide +kernel
theorem dMo_measure_11 : decode cMo_measure 11 = .ok (.iload_n 2, 1) := by decide +kernel
theorem dMo_measure_12 : decode cMo_measure 12 = .ok (.tableswitch 140 0 7 #[48, 58, 68, 78, 88, 111, 121, 131], 48) := by decide +kernel
theorem dMo_measure_60 : decode cMo_measure 60 = .ok (.aload_n 0, 1) := by decide +kernel
theorem dMo_measure_61 : decode cMo_measure 61 = .ok (.getfield 32, 3) := by decide +kernel
theorem dMo_measure_64 : decode cMo_measure 64 = .ok (.iload_n 1, 1) := by decide +kernel
theorem dMo_measure_65 : decode cMo_measure 65 = .ok (.laload, 1) := by decide +kernel
theorem dMo_measure_66 : decode cMo_measure 66 = .ok (.invokestatic 187, 3) := by decide +kernel
theorem dMo_measure_69 : decode cMo_measure 69 = .ok (.ireturn, 1) := by decide +kernel
theorem dMo_measure_70 : decode cMo_measure 70 = .ok (.aload_n 0, 1) := by decide +kernel
theorem dMo_measure_71 : decode cMo_measure 71 = .ok (.getfield 35, 3) := by decide +kernel
theorem dMo_measure_74 : decode cMo_measure 74 = .ok (.iload_n 1, 1) := by decide +kernel
theorem dMo_measure_75 : decode cMo_measure 75 = .ok (.laload, 1) := by decide +kernel
theorem dMo_measure_76 : decode cMo_measure 76 = .ok (.invokestatic 187, 3) := by decide +kernel
theorem dMo_measure_79 : decode cMo_measure 79 = .ok (.ireturn, 1) := by decide +kernel
theorem dMo_measure_80 : decode cMo_measure 80 = .ok (.aload_n 0, 1) := by decide +kernel
theorem dMo_measure_81 : decode cMo_measure 81 = .ok (.getfield 38, 3) := by decide +kernel
theorem dMo_measure_84 : decode cMo_measure 84 = .ok (.iload_n 1, 1) := by decide +kernel
theorem dMo_measure_85 : decode cMo_measure 85 = .ok (.laload, 1) := by decide +kernel
theorem dMo_measure_86 : decode cMo_measure 86 = .ok (.invokestatic 187, 3) := by decide +kernel
theorem dMo_measure_89 : decode cMo_measure 89 = .ok (.ireturn, 1) := by decide +kernel
theorem dMo_measure_90 : decode cMo_measure 90 = .ok (.aload_n 0, 1) := by decide +kernel
theorem dMo_measure_91 : decode cMo_measure 91 = .ok (.getfield 41, 3) := by decide +kernel
theorem dMo_measure_94 : decode cMo_measure 94 = .ok (.iload_n 1, 1) := by decide +kernel
theorem dMo_measure_95 : decode cMo_measure 95 = .ok (.laload, 1) := by decide +kernel
theorem dMo_measure_96 : decode cMo_measure 96 = .ok (.invokestatic 187, 3) := by decide +kernel
theorem dMo_measure_99 : decode cMo_measure 99 = .ok (.ireturn, 1) := by decide +kernel
theorem dMo_measure_100 : decode cMo_measure 100 = .ok (.aload_n 0, 1) := by decide +kernel
theorem dMo_measure_101 : decode cMo_measure 101 = .ok (.getfield 49, 3) := by decide +kernel
theorem dMo_measure_104 : decode cMo_measure 104 = .ok (.iload_n 1, 1) := by decide +kernel
theorem dMo_measure_105 : decode cMo_measure 105 = .ok (.iaload, 1) := by decide +kernel
theorem dMo_measure_106 : decode cMo_measure 106 = .ok (.ifCond .ne 7, 3) := by decide +kernel
theorem dMo_measure_109 : decode cMo_measure 109 = .ok (.iconst (-1), 1) := by decide +kernel
theorem dMo_measure_110 : decode cMo_measure 110 = .ok (.goto 12, 3) := by decide +kernel
theorem dMo_measure_113 : decode cMo_measure 113 = .ok (.aload_n 0, 1) := by decide +kernel
theorem dMo_measure_114 : decode cMo_measure 114 = .ok (.getfield 46, 3) := by decide +kernel
theorem dMo_measure_117 : decode cMo_measure 117 = .ok (.iload_n 1, 1) := by decide +kernel
theorem dMo_measure_118 : decode cMo_measure 118 = .ok (.laload, 1) := by decide +kernel
theorem dMo_measure_119 : decode cMo_measure 119 = .ok (.invokestatic 187, 3) := by decide +kernel
theorem dMo_measure_122 : decode cMo_measure 122 = .ok (.ireturn, 1) := by decide +kernel
theorem dMo_measure_123 : decode cMo_measure 123 = .ok (.aload_n 0, 1) := by decide +kernel
theorem dMo_measure_124 : decode cMo_measure 124 = .ok (.getfield 52, 3) := by decide +kernel
theorem dMo_measure_127 : decode cMo_measure 127 = .ok (.iload_n 1, 1) := by decide +kernel
theorem dMo_measure_128 : decode cMo_measure 128 = .ok (.laload, 1) := by decide +kernel
theorem dMo_measure_129 : decode cMo_measure 129 = .ok (.invokestatic 187, 3) := by decide +kernel
theorem dMo_measure_132 : decode cMo_measure 132 = .ok (.ireturn, 1) := by decide +kernel
theorem dMo_measure_133 : decode cMo_measure 133 = .ok (.aload_n 0, 1) := by decide +kernel
theorem dMo_measure_134 : decode cMo_measure 134 = .ok (.getfield 55, 3) := by decide +kernel
theorem dMo_measure_137 : decode cMo_measure 137 = .ok (.iload_n 1, 1) := by decide +kernel
theorem dMo_measure_138 : decode cMo_measure 138 = .ok (.laload, 1) := by decide +kernel
theorem dMo_measure_139 : decode cMo_measure 139 = .ok (.invokestatic 187, 3) := by decide +kernel
theorem dMo_measure_142 : decode cMo_measure 142 = .ok (.ireturn, 1) := by decide +kernel
theorem dMo_measure_143 : decode cMo_measure 143 = .ok (.aload_n 0, 1) := by decide +kernel
theorem dMo_measure_144 : decode cMo_measure 144 = .ok (.iload_n 1, 1) := by decide +kernel
theorem dMo_measure_145 : decode cMo_measure 145 = .ok (.invokevirtual 108, 3) := by decide +kernel
theorem dMo_measure_148 : decode cMo_measure 148 = .ok (.invokestatic 187, 3) := by decide +kernel
theorem dMo_measure_151 : decode cMo_measure 151 = .ok (.ireturn, 1) := by decide +kernel
theorem dMo_measure_152 : decode cMo_measure 152 = .ok (.ldc 105, 2) := by decide +kernel
theorem dMo_measure_154 : decode cMo_measure 154 = .ok (.ireturn, 1) := by decide +kernel
theorem dMo_told_0 : decode cMo_told 0 = .ok (.lload_n 0, 1) := by decide +kernel
theorem dMo_told_1 : decode cMo_told 1 = .ok (.l2i, 1) := by decide +kernel
theorem dMo_told_2 : decode cMo_told 2 = .ok (.ireturn, 1) := by decide +kernel
theorem dMo_state_0 : decode cMo_state 0 = .ok (.aload_n 0, 1) := by decide +kernel
theorem dMo_state_1 : decode cMo_state 1 = .ok (.iload_n 1, 1) := by decide +kernel
theorem dMo_state_2 : decode cMo_state 2 = .ok (.invokevirtual 114, 3) := by decide +kernel
theorem dMo_state_5 : decode cMo_state 5 = .ok (.ifCond .eq 6, 3) := by decide +kernel
theorem dMo_state_8 : decode cMo_state 8 = .ok (.ldc 105, 2) := by decide +kernel
theorem dMo_state_10 : decode cMo_state 10 = .ok (.ireturn, 1) := by decide +kernel
theorem dMo_state_11 : decode cMo_state 11 = .ok (.iconst 0, 1) := by decide +kernel
theorem dMo_state_12 : decode cMo_state 12 = .ok (.istore_n 3, 1) := by decide +kernel
theorem dMo_state_13 : decode cMo_state 13 = .ok (.iload_n 2, 1) := by decide +kernel
theorem dMo_state_14 : decode cMo_state 14 = .ok (.tableswitch 118 0 5 #[38, 53, 60, 67, 74, 108], 38) := by decide +kernel
theorem dMo_state_52 : decode cMo_state 52 = .ok (.aload_n 0, 1) := by decide +kernel
theorem dMo_state_53 : decode cMo_state 53 = .ok (.getfield 73, 3) := by decide +kernel
theorem dMo_state_56 : decode cMo_state 56 = .ok (.iload_n 1, 1) := by decide +kernel
theorem dMo_state_57 : decode cMo_state 57 = .ok (.baload, 1) := by decide +kernel
theorem dMo_state_58 : decode cMo_state 58 = .ok (.ifCond .eq 7, 3) := by decide +kernel
theorem dMo_state_61 : decode cMo_state 61 = .ok (.iconst 1, 1) := by decide +kernel
theorem dMo_state_62 : decode cMo_state 62 = .ok (.goto 4, 3) := by decide +kernel
theorem dMo_state_65 : decode cMo_state 65 = .ok (.iconst 0, 1) := by decide +kernel
theorem dMo_state_66 : decode cMo_state 66 = .ok (.ireturn, 1) := by decide +kernel
theorem dMo_state_67 : decode cMo_state 67 = .ok (.aload_n 0, 1) := by decide +kernel
theorem dMo_state_68 : decode cMo_state 68 = .ok (.getfield 58, 3) := by decide +kernel
theorem dMo_state_71 : decode cMo_state 71 = .ok (.iload_n 1, 1) := by decide +kernel
theorem dMo_state_72 : decode cMo_state 72 = .ok (.iaload, 1) := by decide +kernel
theorem dMo_state_73 : decode cMo_state 73 = .ok (.ireturn, 1) := by decide +kernel
theorem dMo_state_74 : decode cMo_state 74 = .ok (.aload_n 0, 1) := by decide +kernel
theorem dMo_state_75 : decode cMo_state 75 = .ok (.getfield 49, 3) := by decide +kernel
theorem dMo_state_78 : decode cMo_state 78 = .ok (.iload_n 1, 1) := by decide +kernel
theorem dMo_state_79 : decode cMo_state 79 = .ok (.iaload, 1) := by decide +kernel
theorem dMo_state_80 : decode cMo_state 80 = .ok (.ireturn, 1) := by decide +kernel
theorem dMo_state_81 : decode cMo_state 81 = .ok (.aload_n 0, 1) := by decide +kernel
theorem dMo_state_82 : decode cMo_state 82 = .ok (.getfield 76, 3) := by decide +kernel
theorem dMo_state_85 : decode cMo_state 85 = .ok (.iload_n 1, 1) := by decide +kernel
theorem dMo_state_86 : decode cMo_state 86 = .ok (.iaload, 1) := by decide +kernel
theorem dMo_state_87 : decode cMo_state 87 = .ok (.ireturn, 1) := by decide +kernel
theorem dMo_state_88 : decode cMo_state 88 = .ok (.iconst 0, 1) := by decide +kernel
theorem dMo_state_89 : decode cMo_state 89 = .ok (.istore 4, 2) := by decide +kernel
theorem dMo_state_91 : decode cMo_state 91 = .ok (.iload 4, 2) := by decide +kernel
theorem dMo_state_93 : decode cMo_state 93 = .ok (.aload_n 0, 1) := by decide +kernel
theorem dMo_state_94 : decode cMo_state 94 = .ok (.getfield 121, 3) := by decide +kernel
theorem dMo_state_97 : decode cMo_state 97 = .ok (.if_icmp .ge 23, 3) := by decide +kernel
theorem dMo_state_100 : decode cMo_state 100 = .ok (.aload_n 0, 1) := by decide +kernel
theorem dMo_state_101 : decode cMo_state 101 = .ok (.getfield 82, 3) := by decide +kernel
theorem dMo_state_104 : decode cMo_state 104 = .ok (.iload 4, 2) := by decide +kernel
theorem dMo_state_106 : decode cMo_state 106 = .ok (.iaload, 1) := by decide +kernel
theorem dMo_state_107 : decode cMo_state 107 = .ok (.iload_n 1, 1) := by decide +kernel
theorem dMo_state_108 : decode cMo_state 108 = .ok (.if_icmp .ne 6, 3) := by decide +kernel
theorem dMo_state_111 : decode cMo_state 111 = .ok (.iinc 3 1, 3) := by decide +kernel
theorem dMo_state_114 : decode cMo_state 114 = .ok (.iinc 4 1, 3) := by decide +kernel
theorem dMo_state_117 : decode cMo_state 117 = .ok (.goto (-26), 3) := by decide +kernel
theorem dMo_state_120 : decode cMo_state 120 = .ok (.iload_n 3, 1) := by decide +kernel
theorem dMo_state_121 : decode cMo_state 121 = .ok (.ireturn, 1) := by decide +kernel
theorem dMo_state_122 : decode cMo_state 122 = .ok (.aload_n 0, 1) := by decide +kernel
theorem dMo_state_123 : decode cMo_state 123 = .ok (.getfield 32, 3) := by decide +kernel
theorem dMo_state_126 : decode cMo_state 126 = .ok (.iload_n 1, 1) := by decide +kernel
theorem dMo_state_127 : decode cMo_state 127 = .ok (.laload, 1) := by decide +kernel
theorem dMo_state_128 : decode cMo_state 128 = .ok (.invokestatic 150, 3) := by decide +kernel
theorem dMo_state_131 : decode cMo_state 131 = .ok (.ireturn, 1) := by decide +kernel
theorem dMo_state_132 : decode cMo_state 132 = .ok (.ldc 105, 2) := by decide +kernel
theorem dMo_state_134 : decode cMo_state 134 = .ok (.ireturn, 1) := by decide +kernel
theorem dMo_permitted_0 : decode cMo_permitted 0 = .ok (.aload_n 0, 1) := by decide +kernel
theorem dMo_permitted_1 : decode cMo_permitted 1 = .ok (.iload_n 1, 1) := by decide +kernel
theorem dMo_permitted_2 : decode cMo_permitted 2 = .ok (.invokevirtual 114, 3) := by decide +kernel
theorem dMo_permitted_5 : decode cMo_permitted 5 = .ok (.ifCond .eq 6, 3) := by decide +kernel
theorem dMo_permitted_8 : decode cMo_permitted 8 = .ok (.ldc 105, 2) := by decide +kernel
theorem dMo_permitted_10 : decode cMo_permitted 10 = .ok (.ireturn, 1) := by decide +kernel
theorem dMo_permitted_11 : decode cMo_permitted 11 = .ok (.sipush 320, 3) := by decide +kernel
theorem dMo_permitted_14 : decode cMo_permitted 14 = .ok (.istore_n 2, 1) := by decide +kernel
theorem dMo_permitted_15 : decode cMo_permitted 15 = .ok (.iload_n 2, 1) := by decide +kernel
theorem dMo_permitted_16 : decode cMo_permitted 16 = .ok (.ifCond .lt 31, 3) := by decide +kernel
theorem dMo_permitted_19 : decode cMo_permitted 19 = .ok (.aload_n 0, 1) := by decide +kernel
theorem dMo_permitted_20 : decode cMo_permitted 20 = .ok (.iload_n 1, 1) := by decide +kernel
theorem dMo_permitted_21 : decode cMo_permitted 21 = .ok (.iload_n 2, 1) := by decide +kernel
theorem dMo_permitted_22 : decode cMo_permitted 22 = .ok (.i2l, 1) := by decide +kernel
theorem dMo_permitted_23 : decode cMo_permitted 23 = .ok (.aload_n 0, 1) := by decide +kernel
theorem dMo_permitted_24 : decode cMo_permitted 24 = .ok (.iload_n 1, 1) := by decide +kernel
theorem dMo_permitted_25 : decode cMo_permitted 25 = .ok (.invokevirtual 163, 3) := by decide +kernel
theorem dMo_permitted_28 : decode cMo_permitted 28 = .ok (.aload_n 0, 1) := by decide +kernel
theorem dMo_permitted_29 : decode cMo_permitted 29 = .ok (.iload_n 1, 1) := by decide +kernel
theorem dMo_permitted_30 : decode cMo_permitted 30 = .ok (.invokevirtual 166, 3) := by decide +kernel
theorem dMo_permitted_33 : decode cMo_permitted 33 = .ok (.invokevirtual 169, 3) := by decide +kernel
theorem dMo_permitted_36 : decode cMo_permitted 36 = .ok (.ifCond .eq 5, 3) := by decide +kernel
theorem dMo_permitted_39 : decode cMo_permitted 39 = .ok (.iload_n 2, 1) := by decide +kernel
theorem dMo_permitted_40 : decode cMo_permitted 40 = .ok (.ireturn, 1) := by decide +kernel
theorem dMo_permitted_41 : decode cMo_permitted 41 = .ok (.iinc 2 (-2), 3) := by decide +kernel
theorem dMo_permitted_44 : decode cMo_permitted 44 = .ok (.goto (-29), 3) := by decide +kernel
theorem dMo_permitted_47 : decode cMo_permitted 47 = .ok (.iconst (-1), 1) := by decide +kernel
theorem dMo_permitted_48 : decode cMo_permitted 48 = .ok (.ireturn, 1) := by decide +kernel
theorem dMo_count_0 : decode cMo_count 0 = .ok (.iconst 0, 1) := by decide +kernel
theorem dMo_count_1 : decode cMo_count 1 = .ok (.istore_n 2, 1) := by decide +kernel
theorem dMo_count_2 : decode cMo_count 2 = .ok (.iload_n 1, 1) := by decide +kernel
theorem dMo_count_3 : decode cMo_count 3 = .ok (.tableswitch 100 0 5 #[37, 42, 47, 85, 90, 95], 37) := by decide +kernel
theorem dMo_count_40 : decode cMo_count 40 = .ok (.aload_n 0, 1) := by decide +kernel
theorem dMo_count_41 : decode cMo_count 41 = .ok (.getfield 124, 3) := by decide +kernel
theorem dMo_count_44 : decode cMo_count 44 = .ok (.ireturn, 1) := by decide +kernel
theorem dMo_count_45 : decode cMo_count 45 = .ok (.aload_n 0, 1) := by decide +kernel
theorem dMo_count_46 : decode cMo_count 46 = .ok (.getfield 97, 3) := by decide +kernel
theorem dMo_count_49 : decode cMo_count 49 = .ok (.ireturn, 1) := by decide +kernel
theorem dMo_count_50 : decode cMo_count 50 = .ok (.iconst 1, 1) := by decide +kernel
theorem dMo_count_51 : decode cMo_count 51 = .ok (.istore_n 3, 1) := by decide +kernel
theorem dMo_count_52 : decode cMo_count 52 = .ok (.iload_n 3, 1) := by decide +kernel
theorem dMo_count_53 : decode cMo_count 53 = .ok (.aload_n 0, 1) := by decide +kernel
theorem dMo_count_54 : decode cMo_count 54 = .ok (.getfield 97, 3) := by decide +kernel
theorem dMo_count_57 : decode cMo_count 57 = .ok (.if_icmp .ge 29, 3) := by decide +kernel
theorem dMo_count_60 : decode cMo_count 60 = .ok (.aload_n 0, 1) := by decide +kernel
theorem dMo_count_61 : decode cMo_count 61 = .ok (.getfield 32, 3) := by decide +kernel
theorem dMo_count_64 : decode cMo_count 64 = .ok (.iload_n 3, 1) := by decide +kernel
theorem dMo_count_65 : decode cMo_count 65 = .ok (.laload, 1) := by decide +kernel
theorem dMo_count_66 : decode cMo_count 66 = .ok (.aload_n 0, 1) := by decide +kernel
theorem dMo_count_67 : decode cMo_count 67 = .ok (.iload_n 3, 1) := by decide +kernel
theorem dMo_count_68 : decode cMo_count 68 = .ok (.iconst 1, 1) := by decide +kernel
theorem dMo_count_69 : decode cMo_count 69 = .ok (.isub, 1) := by decide +kernel
theorem dMo_count_70 : decode cMo_count 70 = .ok (.invokevirtual 108, 3) := by decide +kernel
theorem dMo_count_73 : decode cMo_count 73 = .ok (.lcmp, 1) := by decide +kernel
theorem dMo_count_74 : decode cMo_count 74 = .ok (.ifCond .le 6, 3) := by decide +kernel
theorem dMo_count_77 : decode cMo_count 77 = .ok (.iinc 2 1, 3) := by decide +kernel
theorem dMo_count_80 : decode cMo_count 80 = .ok (.iinc 3 1, 3) := by decide +kernel
theorem dMo_count_83 : decode cMo_count 83 = .ok (.goto (-31), 3) := by decide +kernel
theorem dMo_count_86 : decode cMo_count 86 = .ok (.iload_n 2, 1) := by decide +kernel
theorem dMo_count_87 : decode cMo_count 87 = .ok (.ireturn, 1) := by decide +kernel
theorem dMo_count_88 : decode cMo_count 88 = .ok (.aload_n 0, 1) := by decide +kernel
theorem dMo_count_89 : decode cMo_count 89 = .ok (.getfield 121, 3) := by decide +kernel
theorem dMo_count_92 : decode cMo_count 92 = .ok (.ireturn, 1) := by decide +kernel
theorem dMo_count_93 : decode cMo_count 93 = .ok (.aload_n 0, 1) := by decide +kernel
theorem dMo_count_94 : decode cMo_count 94 = .ok (.getfield 118, 3) := by decide +kernel
theorem dMo_count_97 : decode cMo_count 97 = .ok (.ireturn, 1) := by decide +kernel
theorem dMo_count_98 : decode cMo_count 98 = .ok (.aload_n 0, 1) := by decide +kernel
theorem dMo_count_99 : decode cMo_count 99 = .ok (.getfield 127, 3) := by decide +kernel
theorem dMo_count_102 : decode cMo_count 102 = .ok (.ireturn, 1) := by decide +kernel
theorem dMo_count_103 : decode cMo_count 103 = .ok (.ldc 105, 2) := by decide +kernel
theorem dMo_count_105 : decode cMo_count 105 = .ok (.ireturn, 1) := by decide +kernel
