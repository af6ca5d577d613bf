theorem dLa_law_0 : decode code 0 = .ok (.new 7, 3) := by decide +kernel
theorem dLa_law_3 : decode code 3 = .ok (.dup, 1) := by decide +kernel
theorem dLa_law_4 : decode code 4 = .ok (.invokespecial 9, 3) := by decide +kernel
theorem dLa_law_7 : decode code 7 = .ok (.astore_n 1, 1) := by decide +kernel
theorem dLa_law_8 : decode code 8 = .ok (.new 10, 3) := by decide +kernel
theorem dLa_law_11 : decode code 11 = .ok (.dup, 1) := by decide +kernel
theorem dLa_law_12 : decode code 12 = .ok (.invokespecial 12, 3) := by decide +kernel
theorem dLa_law_15 : decode code 15 = .ok (.astore_n 2, 1) := by decide +kernel
theorem dLa_law_16 : decode code 16 = .ok (.iconst 0, 1) := by decide +kernel
theorem dLa_law_17 : decode code 17 = .ok (.istore_n 3, 1) := by decide +kernel
theorem dLa_law_18 : decode code 18 = .ok (.iload_n 3, 1) := by decide +kernel
theorem dLa_law_19 : decode code 19 = .ok (.aload_n 0, 1) := by decide +kernel
theorem dLa_law_20 : decode code 20 = .ok (.arraylength, 1) := by decide +kernel
theorem dLa_law_21 : decode code 21 = .ok (.iconst 4, 1) := by decide +kernel
theorem dLa_law_22 : decode code 22 = .ok (.isub, 1) := by decide +kernel
theorem dLa_law_23 : decode code 23 = .ok (.if_icmp .gt 507, 3) := by decide +kernel
theorem dLa_law_26 : decode code 26 = .ok (.aload_n 0, 1) := by decide +kernel
theorem dLa_law_27 : decode code 27 = .ok (.iload_n 3, 1) := by decide +kernel
theorem dLa_law_28 : decode code 28 = .ok (.iaload, 1) := by decide +kernel
theorem dLa_law_29 : decode code 29 = .ok (.bipush 15, 2) := by decide +kernel
theorem dLa_law_31 : decode code 31 = .ok (.iand, 1) := by decide +kernel
theorem dLa_law_32 : decode code 32 = .ok (.tableswitch 492 0 11 #[64, 107, 166, 215, 248, 281, 314, 357, 380, 413, 446, 469], 64) := by decide +kernel
theorem dLa_law_96 : decode code 96 = .ok (.aload_n 1, 1) := by decide +kernel
theorem dLa_law_97 : decode code 97 = .ok (.aload_n 0, 1) := by decide +kernel
theorem dLa_law_98 : decode code 98 = .ok (.iload_n 3, 1) := by decide +kernel
theorem dLa_law_99 : decode code 99 = .ok (.iconst 1, 1) := by decide +kernel
theorem dLa_law_100 : decode code 100 = .ok (.iadd, 1) := by decide +kernel
theorem dLa_law_101 : decode code 101 = .ok (.iaload, 1) := by decide +kernel
theorem dLa_law_102 : decode code 102 = .ok (.aload_n 0, 1) := by decide +kernel
theorem dLa_law_103 : decode code 103 = .ok (.iload_n 3, 1) := by decide +kernel
theorem dLa_law_104 : decode code 104 = .ok (.iconst 2, 1) := by decide +kernel
theorem dLa_law_105 : decode code 105 = .ok (.iadd, 1) := by decide +kernel
theorem dLa_law_106 : decode code 106 = .ok (.iaload, 1) := by decide +kernel
theorem dLa_law_107 : decode code 107 = .ok (.aload_n 0, 1) := by decide +kernel
theorem dLa_law_108 : decode code 108 = .ok (.iload_n 3, 1) := by decide +kernel
theorem dLa_law_109 : decode code 109 = .ok (.iconst 3, 1) := by decide +kernel
theorem dLa_law_110 : decode code 110 = .ok (.iadd, 1) := by decide +kernel
theorem dLa_law_111 : decode code 111 = .ok (.iaload, 1) := by decide +kernel
theorem dLa_law_112 : decode code 112 = .ok (.invokevirtual 13, 3) := by decide +kernel
theorem dLa_law_115 : decode code 115 = .ok (.aload_n 2, 1) := by decide +kernel
theorem dLa_law_116 : decode code 116 = .ok (.aload_n 0, 1) := by decide +kernel
theorem dLa_law_117 : decode code 117 = .ok (.iload_n 3, 1) := by decide +kernel
theorem dLa_law_118 : decode code 118 = .ok (.iconst 1, 1) := by decide +kernel
theorem dLa_law_119 : decode code 119 = .ok (.iadd, 1) := by decide +kernel
theorem dLa_law_120 : decode code 120 = .ok (.iaload, 1) := by decide +kernel
theorem dLa_law_121 : decode code 121 = .ok (.aload_n 0, 1) := by decide +kernel
theorem dLa_law_122 : decode code 122 = .ok (.iload_n 3, 1) := by decide +kernel
theorem dLa_law_123 : decode code 123 = .ok (.iconst 2, 1) := by decide +kernel
theorem dLa_law_124 : decode code 124 = .ok (.iadd, 1) := by decide +kernel
theorem dLa_law_125 : decode code 125 = .ok (.iaload, 1) := by decide +kernel
theorem dLa_law_126 : decode code 126 = .ok (.aload_n 0, 1) := by decide +kernel
theorem dLa_law_127 : decode code 127 = .ok (.iload_n 3, 1) := by decide +kernel
theorem dLa_law_128 : decode code 128 = .ok (.iconst 3, 1) := by decide +kernel
theorem dLa_law_129 : decode code 129 = .ok (.iadd, 1) := by decide +kernel
theorem dLa_law_130 : decode code 130 = .ok (.iaload, 1) := by decide +kernel
theorem dLa_law_131 : decode code 131 = .ok (.invokevirtual 17, 3) := by decide +kernel
theorem dLa_law_134 : decode code 134 = .ok (.if_icmp .eq 390, 3) := by decide +kernel
theorem dLa_law_137 : decode code 137 = .ok (.iconst 0, 1) := by decide +kernel
theorem dLa_law_138 : decode code 138 = .ok (.ireturn, 1) := by decide +kernel
theorem dLa_law_139 : decode code 139 = .ok (.aload_n 1, 1) := by decide +kernel
theorem dLa_law_140 : decode code 140 = .ok (.aload_n 0, 1) := by decide +kernel
theorem dLa_law_141 : decode code 141 = .ok (.iload_n 3, 1) := by decide +kernel
theorem dLa_law_142 : decode code 142 = .ok (.iconst 1, 1) := by decide +kernel
theorem dLa_law_143 : decode code 143 = .ok (.iadd, 1) := by decide +kernel
theorem dLa_law_144 : decode code 144 = .ok (.iaload, 1) := by decide +kernel
theorem dLa_law_145 : decode code 145 = .ok (.aload_n 0, 1) := by decide +kernel
theorem dLa_law_146 : decode code 146 = .ok (.iload_n 3, 1) := by decide +kernel
theorem dLa_law_147 : decode code 147 = .ok (.iconst 2, 1) := by decide +kernel
theorem dLa_law_148 : decode code 148 = .ok (.iadd, 1) := by decide +kernel
theorem dLa_law_149 : decode code 149 = .ok (.iaload, 1) := by decide +kernel
theorem dLa_law_150 : decode code 150 = .ok (.aload_n 0, 1) := by decide +kernel
theorem dLa_law_151 : decode code 151 = .ok (.iload_n 3, 1) := by decide +kernel
theorem dLa_law_152 : decode code 152 = .ok (.iconst 3, 1) := by decide +kernel
theorem dLa_law_153 : decode code 153 = .ok (.iadd, 1) := by decide +kernel
theorem dLa_law_154 : decode code 154 = .ok (.iaload, 1) := by decide +kernel
theorem dLa_law_155 : decode code 155 = .ok (.ifCond .eq 7, 3) := by decide +kernel
theorem dLa_law_158 : decode code 158 = .ok (.iconst 1, 1) := by decide +kernel
theorem dLa_law_159 : decode code 159 = .ok (.goto 4, 3) := by decide +kernel
theorem dLa_law_162 : decode code 162 = .ok (.iconst 0, 1) := by decide +kernel
theorem dLa_law_163 : decode code 163 = .ok (.invokevirtual 18, 3) := by decide +kernel
theorem dLa_law_166 : decode code 166 = .ok (.aload_n 2, 1) := by decide +kernel
theorem dLa_law_167 : decode code 167 = .ok (.aload_n 0, 1) := by decide +kernel
theorem dLa_law_168 : decode code 168 = .ok (.iload_n 3, 1) := by decide +kernel
theorem dLa_law_169 : decode code 169 = .ok (.iconst 1, 1) := by decide +kernel
theorem dLa_law_170 : decode code 170 = .ok (.iadd, 1) := by decide +kernel
theorem dLa_law_171 : decode code 171 = .ok (.iaload, 1) := by decide +kernel
theorem dLa_law_172 : decode code 172 = .ok (.aload_n 0, 1) := by decide +kernel
theorem dLa_law_173 : decode code 173 = .ok (.iload_n 3, 1) := by decide +kernel
theorem dLa_law_174 : decode code 174 = .ok (.iconst 2, 1) := by decide +kernel
theorem dLa_law_175 : decode code 175 = .ok (.iadd, 1) := by decide +kernel
theorem dLa_law_176 : decode code 176 = .ok (.iaload, 1) := by decide +kernel
theorem dLa_law_177 : decode code 177 = .ok (.aload_n 0, 1) := by decide +kernel
theorem dLa_law_178 : decode code 178 = .ok (.iload_n 3, 1) := by decide +kernel
theorem dLa_law_179 : decode code 179 = .ok (.iconst 3, 1) := by decide +kernel
theorem dLa_law_180 : decode code 180 = .ok (.iadd, 1) := by decide +kernel
theorem dLa_law_181 : decode code 181 = .ok (.iaload, 1) := by decide +kernel
theorem dLa_law_182 : decode code 182 = .ok (.ifCond .eq 7, 3) := by decide +kernel
theorem dLa_law_185 : decode code 185 = .ok (.iconst 1, 1) := by decide +kernel
theorem dLa_law_186 : decode code 186 = .ok (.goto 4, 3) := by decide +kernel
theorem dLa_law_189 : decode code 189 = .ok (.iconst 0, 1) := by decide +kernel
theorem dLa_law_190 : decode code 190 = .ok (.invokevirtual 22, 3) := by decide +kernel
theorem dLa_law_193 : decode code 193 = .ok (.if_icmp .eq 331, 3) := by decide +kernel
theorem dLa_law_196 : decode code 196 = .ok (.iconst 0, 1) := by decide +kernel
theorem dLa_law_197 : decode code 197 = .ok (.ireturn, 1) := by decide +kernel
theorem dLa_law_198 : decode code 198 = .ok (.aload_n 1, 1) := by decide +kernel
theorem dLa_law_199 : decode code 199 = .ok (.aload_n 0, 1) := by decide +kernel
theorem dLa_law_200 : decode code 200 = .ok (.iload_n 3, 1) := by decide +kernel
theorem dLa_law_201 : decode code 201 = .ok (.iconst 1, 1) := by decide +kernel
theorem dLa_law_202 : decode code 202 = .ok (.iadd, 1) := by decide +kernel
theorem dLa_law_203 : decode code 203 = .ok (.iaload, 1) := by decide +kernel
theorem dLa_law_204 : decode code 204 = .ok (.aload_n 0, 1) := by decide +kernel
theorem dLa_law_205 : decode code 205 = .ok (.iload_n 3, 1) := by decide +kernel
theorem dLa_law_206 : decode code 206 = .ok (.iconst 2, 1) := by decide +kernel
theorem dLa_law_207 : decode code 207 = .ok (.iadd, 1) := by decide +kernel
theorem dLa_law_208 : decode code 208 = .ok (.iaload, 1) := by decide +kernel
theorem dLa_law_209 : decode code 209 = .ok (.ifCond .eq 7, 3) := by decide +kernel
theorem dLa_law_212 : decode code 212 = .ok (.iconst 1, 1) := by decide +kernel
theorem dLa_law_213 : decode code 213 = .ok (.goto 4, 3) := by decide +kernel
theorem dLa_law_216 : decode code 216 = .ok (.iconst 0, 1) := by decide +kernel
theorem dLa_law_217 : decode code 217 = .ok (.invokevirtual 23, 3) := by decide +kernel
theorem dLa_law_220 : decode code 220 = .ok (.aload_n 2, 1) := by decide +kernel
theorem dLa_law_221 : decode code 221 = .ok (.aload_n 0, 1) := by decide +kernel
theorem dLa_law_222 : decode code 222 = .ok (.iload_n 3, 1) := by decide +kernel
theorem dLa_law_223 : decode code 223 = .ok (.iconst 1, 1) := by decide +kernel
theorem dLa_law_224 : decode code 224 = .ok (.iadd, 1) := by decide +kernel
theorem dLa_law_225 : decode code 225 = .ok (.iaload, 1) := by decide +kernel
theorem dLa_law_226 : decode code 226 = .ok (.aload_n 0, 1) := by decide +kernel
theorem dLa_law_227 : decode code 227 = .ok (.iload_n 3, 1) := by decide +kernel
theorem dLa_law_228 : decode code 228 = .ok (.iconst 2, 1) := by decide +kernel
theorem dLa_law_229 : decode code 229 = .ok (.iadd, 1) := by decide +kernel
theorem dLa_law_230 : decode code 230 = .ok (.iaload, 1) := by decide +kernel
theorem dLa_law_231 : decode code 231 = .ok (.ifCond .eq 7, 3) := by decide +kernel
theorem dLa_law_234 : decode code 234 = .ok (.iconst 1, 1) := by decide +kernel
theorem dLa_law_235 : decode code 235 = .ok (.goto 4, 3) := by decide +kernel
theorem dLa_law_238 : decode code 238 = .ok (.iconst 0, 1) := by decide +kernel
theorem dLa_law_239 : decode code 239 = .ok (.invokevirtual 27, 3) := by decide +kernel
theorem dLa_law_242 : decode code 242 = .ok (.if_icmp .eq 282, 3) := by decide +kernel
theorem dLa_law_245 : decode code 245 = .ok (.iconst 0, 1) := by decide +kernel
theorem dLa_law_246 : decode code 246 = .ok (.ireturn, 1) := by decide +kernel
theorem dLa_law_247 : decode code 247 = .ok (.aload_n 1, 1) := by decide +kernel
theorem dLa_law_248 : decode code 248 = .ok (.aload_n 0, 1) := by decide +kernel
theorem dLa_law_249 : decode code 249 = .ok (.iload_n 3, 1) := by decide +kernel
theorem dLa_law_250 : decode code 250 = .ok (.iconst 1, 1) := by decide +kernel
theorem dLa_law_251 : decode code 251 = .ok (.iadd, 1) := by decide +kernel
theorem dLa_law_252 : decode code 252 = .ok (.iaload, 1) := by decide +kernel
theorem dLa_law_253 : decode code 253 = .ok (.aload_n 0, 1) := by decide +kernel
theorem dLa_law_254 : decode code 254 = .ok (.iload_n 3, 1) := by decide +kernel
theorem dLa_law_255 : decode code 255 = .ok (.iconst 2, 1) := by decide +kernel
theorem dLa_law_256 : decode code 256 = .ok (.iadd, 1) := by decide +kernel
theorem dLa_law_257 : decode code 257 = .ok (.iaload, 1) := by decide +kernel
theorem dLa_law_258 : decode code 258 = .ok (.invokevirtual 28, 3) := by decide +kernel
theorem dLa_law_261 : decode code 261 = .ok (.aload_n 2, 1) := by decide +kernel
theorem dLa_law_262 : decode code 262 = .ok (.aload_n 0, 1) := by decide +kernel
theorem dLa_law_263 : decode code 263 = .ok (.iload_n 3, 1) := by decide +kernel
theorem dLa_law_264 : decode code 264 = .ok (.iconst 1, 1) := by decide +kernel
theorem dLa_law_265 : decode code 265 = .ok (.iadd, 1) := by decide +kernel
theorem dLa_law_266 : decode code 266 = .ok (.iaload, 1) := by decide +kernel
theorem dLa_law_267 : decode code 267 = .ok (.aload_n 0, 1) := by decide +kernel
theorem dLa_law_268 : decode code 268 = .ok (.iload_n 3, 1) := by decide +kernel
theorem dLa_law_269 : decode code 269 = .ok (.iconst 2, 1) := by decide +kernel
theorem dLa_law_270 : decode code 270 = .ok (.iadd, 1) := by decide +kernel
theorem dLa_law_271 : decode code 271 = .ok (.iaload, 1) := by decide +kernel
theorem dLa_law_272 : decode code 272 = .ok (.invokevirtual 32, 3) := by decide +kernel
theorem dLa_law_275 : decode code 275 = .ok (.if_icmp .eq 249, 3) := by decide +kernel
theorem dLa_law_278 : decode code 278 = .ok (.iconst 0, 1) := by decide +kernel
theorem dLa_law_279 : decode code 279 = .ok (.ireturn, 1) := by decide +kernel
theorem dLa_law_280 : decode code 280 = .ok (.aload_n 1, 1) := by decide +kernel
theorem dLa_law_281 : decode code 281 = .ok (.aload_n 0, 1) := by decide +kernel
theorem dLa_law_282 : decode code 282 = .ok (.iload_n 3, 1) := by decide +kernel
theorem dLa_law_283 : decode code 283 = .ok (.iconst 1, 1) := by decide +kernel
theorem dLa_law_284 : decode code 284 = .ok (.iadd, 1) := by decide +kernel
theorem dLa_law_285 : decode code 285 = .ok (.iaload, 1) := by decide +kernel
theorem dLa_law_286 : decode code 286 = .ok (.aload_n 0, 1) := by decide +kernel
theorem dLa_law_287 : decode code 287 = .ok (.iload_n 3, 1) := by decide +kernel
theorem dLa_law_288 : decode code 288 = .ok (.iconst 2, 1) := by decide +kernel
theorem dLa_law_289 : decode code 289 = .ok (.iadd, 1) := by decide +kernel
theorem dLa_law_290 : decode code 290 = .ok (.iaload, 1) := by decide +kernel
theorem dLa_law_291 : decode code 291 = .ok (.invokevirtual 33, 3) := by decide +kernel
theorem dLa_law_294 : decode code 294 = .ok (.aload_n 2, 1) := by decide +kernel
theorem dLa_law_295 : decode code 295 = .ok (.aload_n 0, 1) := by decide +kernel
theorem dLa_law_296 : decode code 296 = .ok (.iload_n 3, 1) := by decide +kernel
theorem dLa_law_297 : decode code 297 = .ok (.iconst 1, 1) := by decide +kernel
theorem dLa_law_298 : decode code 298 = .ok (.iadd, 1) := by decide +kernel
theorem dLa_law_299 : decode code 299 = .ok (.iaload, 1) := by decide +kernel
theorem dLa_law_300 : decode code 300 = .ok (.aload_n 0, 1) := by decide +kernel
theorem dLa_law_301 : decode code 301 = .ok (.iload_n 3, 1) := by decide +kernel
theorem dLa_law_302 : decode code 302 = .ok (.iconst 2, 1) := by decide +kernel
theorem dLa_law_303 : decode code 303 = .ok (.iadd, 1) := by decide +kernel
theorem dLa_law_304 : decode code 304 = .ok (.iaload, 1) := by decide +kernel
theorem dLa_law_305 : decode code 305 = .ok (.invokevirtual 36, 3) := by decide +kernel
theorem dLa_law_308 : decode code 308 = .ok (.if_icmp .eq 216, 3) := by decide +kernel
theorem dLa_law_311 : decode code 311 = .ok (.iconst 0, 1) := by decide +kernel
theorem dLa_law_312 : decode code 312 = .ok (.ireturn, 1) := by decide +kernel
theorem dLa_law_313 : decode code 313 = .ok (.aload_n 1, 1) := by decide +kernel
theorem dLa_law_314 : decode code 314 = .ok (.aload_n 0, 1) := by decide +kernel
theorem dLa_law_315 : decode code 315 = .ok (.iload_n 3, 1) := by decide +kernel
theorem dLa_law_316 : decode code 316 = .ok (.iconst 1, 1) := by decide +kernel
theorem dLa_law_317 : decode code 317 = .ok (.iadd, 1) := by decide +kernel
theorem dLa_law_318 : decode code 318 = .ok (.iaload, 1) := by decide +kernel
theorem dLa_law_319 : decode code 319 = .ok (.aload_n 0, 1) := by decide +kernel
theorem dLa_law_320 : decode code 320 = .ok (.iload_n 3, 1) := by decide +kernel
theorem dLa_law_321 : decode code 321 = .ok (.iconst 2, 1) := by decide +kernel
theorem dLa_law_322 : decode code 322 = .ok (.iadd, 1) := by decide +kernel
theorem dLa_law_323 : decode code 323 = .ok (.iaload, 1) := by decide +kernel
theorem dLa_law_324 : decode code 324 = .ok (.invokevirtual 37, 3) := by decide +kernel
theorem dLa_law_327 : decode code 327 = .ok (.aload_n 2, 1) := by decide +kernel
theorem dLa_law_328 : decode code 328 = .ok (.aload_n 0, 1) := by decide +kernel
theorem dLa_law_329 : decode code 329 = .ok (.iload_n 3, 1) := by decide +kernel
theorem dLa_law_330 : decode code 330 = .ok (.iconst 1, 1) := by decide +kernel
theorem dLa_law_331 : decode code 331 = .ok (.iadd, 1) := by decide +kernel
theorem dLa_law_332 : decode code 332 = .ok (.iaload, 1) := by decide +kernel
theorem dLa_law_333 : decode code 333 = .ok (.aload_n 0, 1) := by decide +kernel
theorem dLa_law_334 : decode code 334 = .ok (.iload_n 3, 1) := by decide +kernel
theorem dLa_law_335 : decode code 335 = .ok (.iconst 2, 1) := by decide +kernel
theorem dLa_law_336 : decode code 336 = .ok (.iadd, 1) := by decide +kernel
theorem dLa_law_337 : decode code 337 = .ok (.iaload, 1) := by decide +kernel
theorem dLa_law_338 : decode code 338 = .ok (.invokevirtual 40, 3) := by decide +kernel
theorem dLa_law_341 : decode code 341 = .ok (.if_icmp .eq 183, 3) := by decide +kernel
theorem dLa_law_344 : decode code 344 = .ok (.iconst 0, 1) := by decide +kernel
theorem dLa_law_345 : decode code 345 = .ok (.ireturn, 1) := by decide +kernel
theorem dLa_law_346 : decode code 346 = .ok (.aload_n 1, 1) := by decide +kernel
theorem dLa_law_347 : decode code 347 = .ok (.aload_n 0, 1) := by decide +kernel
theorem dLa_law_348 : decode code 348 = .ok (.iload_n 3, 1) := by decide +kernel
theorem dLa_law_349 : decode code 349 = .ok (.iconst 1, 1) := by decide +kernel
theorem dLa_law_350 : decode code 350 = .ok (.iadd, 1) := by decide +kernel
theorem dLa_law_351 : decode code 351 = .ok (.iaload, 1) := by decide +kernel
theorem dLa_law_352 : decode code 352 = .ok (.aload_n 0, 1) := by decide +kernel
theorem dLa_law_353 : decode code 353 = .ok (.iload_n 3, 1) := by decide +kernel
theorem dLa_law_354 : decode code 354 = .ok (.iconst 2, 1) := by decide +kernel
theorem dLa_law_355 : decode code 355 = .ok (.iadd, 1) := by decide +kernel
theorem dLa_law_356 : decode code 356 = .ok (.iaload, 1) := by decide +kernel
theorem dLa_law_357 : decode code 357 = .ok (.aload_n 0, 1) := by decide +kernel
theorem dLa_law_358 : decode code 358 = .ok (.iload_n 3, 1) := by decide +kernel
theorem dLa_law_359 : decode code 359 = .ok (.iconst 3, 1) := by decide +kernel
theorem dLa_law_360 : decode code 360 = .ok (.iadd, 1) := by decide +kernel
theorem dLa_law_361 : decode code 361 = .ok (.iaload, 1) := by decide +kernel
theorem dLa_law_362 : decode code 362 = .ok (.invokevirtual 41, 3) := by decide +kernel
theorem dLa_law_365 : decode code 365 = .ok (.aload_n 2, 1) := by decide +kernel
theorem dLa_law_366 : decode code 366 = .ok (.aload_n 0, 1) := by decide +kernel
theorem dLa_law_367 : decode code 367 = .ok (.iload_n 3, 1) := by decide +kernel
theorem dLa_law_368 : decode code 368 = .ok (.iconst 1, 1) := by decide +kernel
theorem dLa_law_369 : decode code 369 = .ok (.iadd, 1) := by decide +kernel
theorem dLa_law_370 : decode code 370 = .ok (.iaload, 1) := by decide +kernel
theorem dLa_law_371 : decode code 371 = .ok (.aload_n 0, 1) := by decide +kernel
theorem dLa_law_372 : decode code 372 = .ok (.iload_n 3, 1) := by decide +kernel
theorem dLa_law_373 : decode code 373 = .ok (.iconst 2, 1) := by decide +kernel
theorem dLa_law_374 : decode code 374 = .ok (.iadd, 1) := by decide +kernel
theorem dLa_law_375 : decode code 375 = .ok (.iaload, 1) := by decide +kernel
theorem dLa_law_376 : decode code 376 = .ok (.aload_n 0, 1) := by decide +kernel
theorem dLa_law_377 : decode code 377 = .ok (.iload_n 3, 1) := by decide +kernel
theorem dLa_law_378 : decode code 378 = .ok (.iconst 3, 1) := by decide +kernel
theorem dLa_law_379 : decode code 379 = .ok (.iadd, 1) := by decide +kernel
theorem dLa_law_380 : decode code 380 = .ok (.iaload, 1) := by decide +kernel
theorem dLa_law_381 : decode code 381 = .ok (.invokevirtual 44, 3) := by decide +kernel
theorem dLa_law_384 : decode code 384 = .ok (.if_icmp .eq 140, 3) := by decide +kernel
theorem dLa_law_387 : decode code 387 = .ok (.iconst 0, 1) := by decide +kernel
theorem dLa_law_388 : decode code 388 = .ok (.ireturn, 1) := by decide +kernel
theorem dLa_law_389 : decode code 389 = .ok (.aload_n 1, 1) := by decide +kernel
theorem dLa_law_390 : decode code 390 = .ok (.aload_n 0, 1) := by decide +kernel
theorem dLa_law_391 : decode code 391 = .ok (.iload_n 3, 1) := by decide +kernel
theorem dLa_law_392 : decode code 392 = .ok (.iconst 1, 1) := by decide +kernel
theorem dLa_law_393 : decode code 393 = .ok (.iadd, 1) := by decide +kernel
theorem dLa_law_394 : decode code 394 = .ok (.iaload, 1) := by decide +kernel
theorem dLa_law_395 : decode code 395 = .ok (.invokevirtual 45, 3) := by decide +kernel
theorem dLa_law_398 : decode code 398 = .ok (.aload_n 2, 1) := by decide +kernel
theorem dLa_law_399 : decode code 399 = .ok (.aload_n 0, 1) := by decide +kernel
theorem dLa_law_400 : decode code 400 = .ok (.iload_n 3, 1) := by decide +kernel
theorem dLa_law_401 : decode code 401 = .ok (.iconst 1, 1) := by decide +kernel
theorem dLa_law_402 : decode code 402 = .ok (.iadd, 1) := by decide +kernel
theorem dLa_law_403 : decode code 403 = .ok (.iaload, 1) := by decide +kernel
theorem dLa_law_404 : decode code 404 = .ok (.invokevirtual 49, 3) := by decide +kernel
theorem dLa_law_407 : decode code 407 = .ok (.if_icmp .eq 117, 3) := by decide +kernel
theorem dLa_law_410 : decode code 410 = .ok (.iconst 0, 1) := by decide +kernel
theorem dLa_law_411 : decode code 411 = .ok (.ireturn, 1) := by decide +kernel
theorem dLa_law_412 : decode code 412 = .ok (.aload_n 1, 1) := by decide +kernel
theorem dLa_law_413 : decode code 413 = .ok (.aload_n 0, 1) := by decide +kernel
theorem dLa_law_414 : decode code 414 = .ok (.iload_n 3, 1) := by decide +kernel
theorem dLa_law_415 : decode code 415 = .ok (.iconst 1, 1) := by decide +kernel
theorem dLa_law_416 : decode code 416 = .ok (.iadd, 1) := by decide +kernel
theorem dLa_law_417 : decode code 417 = .ok (.iaload, 1) := by decide +kernel
theorem dLa_law_418 : decode code 418 = .ok (.aload_n 0, 1) := by decide +kernel
theorem dLa_law_419 : decode code 419 = .ok (.iload_n 3, 1) := by decide +kernel
theorem dLa_law_420 : decode code 420 = .ok (.iconst 2, 1) := by decide +kernel
theorem dLa_law_421 : decode code 421 = .ok (.iadd, 1) := by decide +kernel
theorem dLa_law_422 : decode code 422 = .ok (.iaload, 1) := by decide +kernel
theorem dLa_law_423 : decode code 423 = .ok (.invokevirtual 50, 3) := by decide +kernel
theorem dLa_law_426 : decode code 426 = .ok (.aload_n 2, 1) := by decide +kernel
theorem dLa_law_427 : decode code 427 = .ok (.aload_n 0, 1) := by decide +kernel
theorem dLa_law_428 : decode code 428 = .ok (.iload_n 3, 1) := by decide +kernel
theorem dLa_law_429 : decode code 429 = .ok (.iconst 1, 1) := by decide +kernel
theorem dLa_law_430 : decode code 430 = .ok (.iadd, 1) := by decide +kernel
theorem dLa_law_431 : decode code 431 = .ok (.iaload, 1) := by decide +kernel
theorem dLa_law_432 : decode code 432 = .ok (.aload_n 0, 1) := by decide +kernel
theorem dLa_law_433 : decode code 433 = .ok (.iload_n 3, 1) := by decide +kernel
theorem dLa_law_434 : decode code 434 = .ok (.iconst 2, 1) := by decide +kernel
theorem dLa_law_435 : decode code 435 = .ok (.iadd, 1) := by decide +kernel
theorem dLa_law_436 : decode code 436 = .ok (.iaload, 1) := by decide +kernel
theorem dLa_law_437 : decode code 437 = .ok (.invokevirtual 53, 3) := by decide +kernel
theorem dLa_law_440 : decode code 440 = .ok (.if_icmp .eq 84, 3) := by decide +kernel
theorem dLa_law_443 : decode code 443 = .ok (.iconst 0, 1) := by decide +kernel
theorem dLa_law_444 : decode code 444 = .ok (.ireturn, 1) := by decide +kernel
theorem dLa_law_445 : decode code 445 = .ok (.aload_n 1, 1) := by decide +kernel
theorem dLa_law_446 : decode code 446 = .ok (.aload_n 0, 1) := by decide +kernel
theorem dLa_law_447 : decode code 447 = .ok (.iload_n 3, 1) := by decide +kernel
theorem dLa_law_448 : decode code 448 = .ok (.iconst 1, 1) := by decide +kernel
theorem dLa_law_449 : decode code 449 = .ok (.iadd, 1) := by decide +kernel
theorem dLa_law_450 : decode code 450 = .ok (.iaload, 1) := by decide +kernel
theorem dLa_law_451 : decode code 451 = .ok (.aload_n 0, 1) := by decide +kernel
theorem dLa_law_452 : decode code 452 = .ok (.iload_n 3, 1) := by decide +kernel
theorem dLa_law_453 : decode code 453 = .ok (.iconst 2, 1) := by decide +kernel
theorem dLa_law_454 : decode code 454 = .ok (.iadd, 1) := by decide +kernel
theorem dLa_law_455 : decode code 455 = .ok (.iaload, 1) := by decide +kernel
theorem dLa_law_456 : decode code 456 = .ok (.invokevirtual 54, 3) := by decide +kernel
theorem dLa_law_459 : decode code 459 = .ok (.aload_n 2, 1) := by decide +kernel
theorem dLa_law_460 : decode code 460 = .ok (.aload_n 0, 1) := by decide +kernel
theorem dLa_law_461 : decode code 461 = .ok (.iload_n 3, 1) := by decide +kernel
theorem dLa_law_462 : decode code 462 = .ok (.iconst 1, 1) := by decide +kernel
theorem dLa_law_463 : decode code 463 = .ok (.iadd, 1) := by decide +kernel
theorem dLa_law_464 : decode code 464 = .ok (.iaload, 1) := by decide +kernel
theorem dLa_law_465 : decode code 465 = .ok (.aload_n 0, 1) := by decide +kernel
theorem dLa_law_466 : decode code 466 = .ok (.iload_n 3, 1) := by decide +kernel
theorem dLa_law_467 : decode code 467 = .ok (.iconst 2, 1) := by decide +kernel
theorem dLa_law_468 : decode code 468 = .ok (.iadd, 1) := by decide +kernel
theorem dLa_law_469 : decode code 469 = .ok (.iaload, 1) := by decide +kernel
theorem dLa_law_470 : decode code 470 = .ok (.invokevirtual 57, 3) := by decide +kernel
theorem dLa_law_473 : decode code 473 = .ok (.if_icmp .eq 51, 3) := by decide +kernel
theorem dLa_law_476 : decode code 476 = .ok (.iconst 0, 1) := by decide +kernel
theorem dLa_law_477 : decode code 477 = .ok (.ireturn, 1) := by decide +kernel
theorem dLa_law_478 : decode code 478 = .ok (.aload_n 1, 1) := by decide +kernel
theorem dLa_law_479 : decode code 479 = .ok (.aload_n 0, 1) := by decide +kernel
theorem dLa_law_480 : decode code 480 = .ok (.iload_n 3, 1) := by decide +kernel
theorem dLa_law_481 : decode code 481 = .ok (.iconst 1, 1) := by decide +kernel
theorem dLa_law_482 : decode code 482 = .ok (.iadd, 1) := by decide +kernel
theorem dLa_law_483 : decode code 483 = .ok (.iaload, 1) := by decide +kernel
theorem dLa_law_484 : decode code 484 = .ok (.invokevirtual 58, 3) := by decide +kernel
theorem dLa_law_487 : decode code 487 = .ok (.aload_n 2, 1) := by decide +kernel
theorem dLa_law_488 : decode code 488 = .ok (.aload_n 0, 1) := by decide +kernel
theorem dLa_law_489 : decode code 489 = .ok (.iload_n 3, 1) := by decide +kernel
theorem dLa_law_490 : decode code 490 = .ok (.iconst 1, 1) := by decide +kernel
theorem dLa_law_491 : decode code 491 = .ok (.iadd, 1) := by decide +kernel
theorem dLa_law_492 : decode code 492 = .ok (.iaload, 1) := by decide +kernel
theorem dLa_law_493 : decode code 493 = .ok (.invokevirtual 61, 3) := by decide +kernel
theorem dLa_law_496 : decode code 496 = .ok (.if_icmp .eq 28, 3) := by decide +kernel
theorem dLa_law_499 : decode code 499 = .ok (.iconst 0, 1) := by decide +kernel
theorem dLa_law_500 : decode code 500 = .ok (.ireturn, 1) := by decide +kernel
theorem dLa_law_501 : decode code 501 = .ok (.aload_n 1, 1) := by decide +kernel
theorem dLa_law_502 : decode code 502 = .ok (.aload_n 0, 1) := by decide +kernel
theorem dLa_law_503 : decode code 503 = .ok (.iload_n 3, 1) := by decide +kernel
theorem dLa_law_504 : decode code 504 = .ok (.iconst 1, 1) := by decide +kernel
theorem dLa_law_505 : decode code 505 = .ok (.iadd, 1) := by decide +kernel
theorem dLa_law_506 : decode code 506 = .ok (.iaload, 1) := by decide +kernel
theorem dLa_law_507 : decode code 507 = .ok (.invokevirtual 62, 3) := by decide +kernel
theorem dLa_law_510 : decode code 510 = .ok (.aload_n 2, 1) := by decide +kernel
theorem dLa_law_511 : decode code 511 = .ok (.aload_n 0, 1) := by decide +kernel
theorem dLa_law_512 : decode code 512 = .ok (.iload_n 3, 1) := by decide +kernel
theorem dLa_law_513 : decode code 513 = .ok (.iconst 1, 1) := by decide +kernel
theorem dLa_law_514 : decode code 514 = .ok (.iadd, 1) := by decide +kernel
theorem dLa_law_515 : decode code 515 = .ok (.iaload, 1) := by decide +kernel
theorem dLa_law_516 : decode code 516 = .ok (.invokevirtual 65, 3) := by decide +kernel
theorem dLa_law_519 : decode code 519 = .ok (.if_icmp .eq 5, 3) := by decide +kernel
theorem dLa_law_522 : decode code 522 = .ok (.iconst 0, 1) := by decide +kernel
theorem dLa_law_523 : decode code 523 = .ok (.ireturn, 1) := by decide +kernel
theorem dLa_law_524 : decode code 524 = .ok (.iinc 3 4, 3) := by decide +kernel
theorem dLa_law_527 : decode code 527 = .ok (.goto (-509), 3) := by decide +kernel
theorem dLa_law_530 : decode code 530 = .ok (.iconst 1, 1) := by decide +kernel
theorem dLa_law_531 : decode code 531 = .ok (.ireturn, 1) := by decide +kernel
