theorem dX8_init_0 : decode cX8_init 0 = .ok (.aload_n 0, 1) := by decide +kernel
theorem dX8_init_1 : decode cX8_init 1 = .ok (.invokespecial 1, 3) := by decide +kernel
theorem dX8_init_4 : decode cX8_init 4 = .ok (.aload_n 0, 1) := by decide +kernel
theorem dX8_init_5 : decode cX8_init 5 = .ok (.bipush 7, 2) := by decide +kernel
theorem dX8_init_7 : decode cX8_init 7 = .ok (.newarray .int, 2) := by decide +kernel
theorem dX8_init_9 : decode cX8_init 9 = .ok (.putfield 7, 3) := by decide +kernel
theorem dX8_init_12 : decode cX8_init 12 = .ok (.aload_n 0, 1) := by decide +kernel
theorem dX8_init_13 : decode cX8_init 13 = .ok (.sipush 5540, 3) := by decide +kernel
theorem dX8_init_16 : decode cX8_init 16 = .ok (.newarray .int, 2) := by decide +kernel
theorem dX8_init_18 : decode cX8_init 18 = .ok (.putfield 13, 3) := by decide +kernel
theorem dX8_init_21 : decode cX8_init 21 = .ok (.aload_n 0, 1) := by decide +kernel
theorem dX8_init_22 : decode cX8_init 22 = .ok (.sipush 11080, 3) := by decide +kernel
theorem dX8_init_25 : decode cX8_init 25 = .ok (.newarray .int, 2) := by decide +kernel
theorem dX8_init_27 : decode cX8_init 27 = .ok (.putfield 16, 3) := by decide +kernel
theorem dX8_init_30 : decode cX8_init 30 = .ok (.aload_n 0, 1) := by decide +kernel
theorem dX8_init_31 : decode cX8_init 31 = .ok (.iconst 2, 1) := by decide +kernel
theorem dX8_init_32 : decode cX8_init 32 = .ok (.newarray .boolean, 2) := by decide +kernel
theorem dX8_init_34 : decode cX8_init 34 = .ok (.putfield 19, 3) := by decide +kernel
theorem dX8_init_37 : decode cX8_init 37 = .ok (.aload_n 0, 1) := by decide +kernel
theorem dX8_init_38 : decode cX8_init 38 = .ok (.sipush 1062, 3) := by decide +kernel
theorem dX8_init_41 : decode cX8_init 41 = .ok (.newarray .int, 2) := by decide +kernel
theorem dX8_init_43 : decode cX8_init 43 = .ok (.putfield 23, 3) := by decide +kernel
theorem dX8_init_46 : decode cX8_init 46 = .ok (.aload_n 0, 1) := by decide +kernel
theorem dX8_init_47 : decode cX8_init 47 = .ok (.bipush 16, 2) := by decide +kernel
theorem dX8_init_49 : decode cX8_init 49 = .ok (.newarray .int, 2) := by decide +kernel
theorem dX8_init_51 : decode cX8_init 51 = .ok (.putfield 26, 3) := by decide +kernel
theorem dX8_init_54 : decode cX8_init 54 = .ok (.aload_n 0, 1) := by decide +kernel
theorem dX8_init_55 : decode cX8_init 55 = .ok (.sipush 944, 3) := by decide +kernel
theorem dX8_init_58 : decode cX8_init 58 = .ok (.newarray .int, 2) := by decide +kernel
theorem dX8_init_60 : decode cX8_init 60 = .ok (.putfield 29, 3) := by decide +kernel
theorem dX8_init_63 : decode cX8_init 63 = .ok (.aload_n 0, 1) := by decide +kernel
theorem dX8_init_64 : decode cX8_init 64 = .ok (.bipush 16, 2) := by decide +kernel
theorem dX8_init_66 : decode cX8_init 66 = .ok (.newarray .int, 2) := by decide +kernel
theorem dX8_init_68 : decode cX8_init 68 = .ok (.putfield 32, 3) := by decide +kernel
theorem dX8_init_71 : decode cX8_init 71 = .ok (.aload_n 0, 1) := by decide +kernel
theorem dX8_init_72 : decode cX8_init 72 = .ok (.sipush 400, 3) := by decide +kernel
theorem dX8_init_75 : decode cX8_init 75 = .ok (.newarray .int, 2) := by decide +kernel
theorem dX8_init_77 : decode cX8_init 77 = .ok (.putfield 35, 3) := by decide +kernel
theorem dX8_init_80 : decode cX8_init 80 = .ok (.aload_n 0, 1) := by decide +kernel
theorem dX8_init_81 : decode cX8_init 81 = .ok (.iconst (-1), 1) := by decide +kernel
theorem dX8_init_82 : decode cX8_init 82 = .ok (.putfield 38, 3) := by decide +kernel
theorem dX8_init_85 : decode cX8_init 85 = .ok (.aload_n 0, 1) := by decide +kernel
theorem dX8_init_86 : decode cX8_init 86 = .ok (.bipush 96, 2) := by decide +kernel
theorem dX8_init_88 : decode cX8_init 88 = .ok (.newarray .int, 2) := by decide +kernel
theorem dX8_init_90 : decode cX8_init 90 = .ok (.putfield 42, 3) := by decide +kernel
theorem dX8_init_93 : decode cX8_init 93 = .ok (.aload_n 0, 1) := by decide +kernel
theorem dX8_init_94 : decode cX8_init 94 = .ok (.sipush 400, 3) := by decide +kernel
theorem dX8_init_97 : decode cX8_init 97 = .ok (.newarray .int, 2) := by decide +kernel
theorem dX8_init_99 : decode cX8_init 99 = .ok (.putfield 45, 3) := by decide +kernel
theorem dX8_init_102 : decode cX8_init 102 = .ok (.aload_n 0, 1) := by decide +kernel
theorem dX8_init_103 : decode cX8_init 103 = .ok (.sipush 400, 3) := by decide +kernel
theorem dX8_init_106 : decode cX8_init 106 = .ok (.newarray .int, 2) := by decide +kernel
theorem dX8_init_108 : decode cX8_init 108 = .ok (.putfield 48, 3) := by decide +kernel
theorem dX8_init_111 : decode cX8_init 111 = .ok (.aload_n 0, 1) := by decide +kernel
theorem dX8_init_112 : decode cX8_init 112 = .ok (.sipush 400, 3) := by decide +kernel
theorem dX8_init_115 : decode cX8_init 115 = .ok (.newarray .int, 2) := by decide +kernel
theorem dX8_init_117 : decode cX8_init 117 = .ok (.putfield 51, 3) := by decide +kernel
theorem dX8_init_120 : decode cX8_init 120 = .ok (.aload_n 0, 1) := by decide +kernel
theorem dX8_init_121 : decode cX8_init 121 = .ok (.sipush 400, 3) := by decide +kernel
theorem dX8_init_124 : decode cX8_init 124 = .ok (.newarray .int, 2) := by decide +kernel
theorem dX8_init_126 : decode cX8_init 126 = .ok (.putfield 54, 3) := by decide +kernel
theorem dX8_init_129 : decode cX8_init 129 = .ok (.aload_n 0, 1) := by decide +kernel
theorem dX8_init_130 : decode cX8_init 130 = .ok (.bipush 11, 2) := by decide +kernel
theorem dX8_init_132 : decode cX8_init 132 = .ok (.newarray .long, 2) := by decide +kernel
theorem dX8_init_134 : decode cX8_init 134 = .ok (.dup, 1) := by decide +kernel
theorem dX8_init_135 : decode cX8_init 135 = .ok (.iconst 0, 1) := by decide +kernel
theorem dX8_init_136 : decode cX8_init 136 = .ok (.ldc2_w 57, 3) := by decide +kernel
theorem dX8_init_139 : decode cX8_init 139 = .ok (.lastore, 1) := by decide +kernel
theorem dX8_init_140 : decode cX8_init 140 = .ok (.dup, 1) := by decide +kernel
theorem dX8_init_141 : decode cX8_init 141 = .ok (.iconst 1, 1) := by decide +kernel
theorem dX8_init_142 : decode cX8_init 142 = .ok (.ldc2_w 59, 3) := by decide +kernel
theorem dX8_init_145 : decode cX8_init 145 = .ok (.lastore, 1) := by decide +kernel
theorem dX8_init_146 : decode cX8_init 146 = .ok (.dup, 1) := by decide +kernel
theorem dX8_init_147 : decode cX8_init 147 = .ok (.iconst 2, 1) := by decide +kernel
theorem dX8_init_148 : decode cX8_init 148 = .ok (.ldc2_w 61, 3) := by decide +kernel
theorem dX8_init_151 : decode cX8_init 151 = .ok (.lastore, 1) := by decide +kernel
theorem dX8_init_152 : decode cX8_init 152 = .ok (.dup, 1) := by decide +kernel
theorem dX8_init_153 : decode cX8_init 153 = .ok (.iconst 3, 1) := by decide +kernel
theorem dX8_init_154 : decode cX8_init 154 = .ok (.ldc2_w 63, 3) := by decide +kernel
theorem dX8_init_157 : decode cX8_init 157 = .ok (.lastore, 1) := by decide +kernel
theorem dX8_init_158 : decode cX8_init 158 = .ok (.dup, 1) := by decide +kernel
theorem dX8_init_159 : decode cX8_init 159 = .ok (.iconst 4, 1) := by decide +kernel
theorem dX8_init_160 : decode cX8_init 160 = .ok (.ldc2_w 65, 3) := by decide +kernel
theorem dX8_init_163 : decode cX8_init 163 = .ok (.lastore, 1) := by decide +kernel
theorem dX8_init_164 : decode cX8_init 164 = .ok (.dup, 1) := by decide +kernel
theorem dX8_init_165 : decode cX8_init 165 = .ok (.iconst 5, 1) := by decide +kernel
theorem dX8_init_166 : decode cX8_init 166 = .ok (.ldc2_w 67, 3) := by decide +kernel
theorem dX8_init_169 : decode cX8_init 169 = .ok (.lastore, 1) := by decide +kernel
theorem dX8_init_170 : decode cX8_init 170 = .ok (.dup, 1) := by decide +kernel
theorem dX8_init_171 : decode cX8_init 171 = .ok (.bipush 6, 2) := by decide +kernel
theorem dX8_init_173 : decode cX8_init 173 = .ok (.ldc2_w 69, 3) := by decide +kernel
theorem dX8_init_176 : decode cX8_init 176 = .ok (.lastore, 1) := by decide +kernel
theorem dX8_init_177 : decode cX8_init 177 = .ok (.dup, 1) := by decide +kernel
theorem dX8_init_178 : decode cX8_init 178 = .ok (.bipush 7, 2) := by decide +kernel
theorem dX8_init_180 : decode cX8_init 180 = .ok (.ldc2_w 71, 3) := by decide +kernel
theorem dX8_init_183 : decode cX8_init 183 = .ok (.lastore, 1) := by decide +kernel
theorem dX8_init_184 : decode cX8_init 184 = .ok (.dup, 1) := by decide +kernel
theorem dX8_init_185 : decode cX8_init 185 = .ok (.bipush 8, 2) := by decide +kernel
theorem dX8_init_187 : decode cX8_init 187 = .ok (.ldc2_w 73, 3) := by decide +kernel
theorem dX8_init_190 : decode cX8_init 190 = .ok (.lastore, 1) := by decide +kernel
theorem dX8_init_191 : decode cX8_init 191 = .ok (.dup, 1) := by decide +kernel
theorem dX8_init_192 : decode cX8_init 192 = .ok (.bipush 9, 2) := by decide +kernel
theorem dX8_init_194 : decode cX8_init 194 = .ok (.ldc2_w 75, 3) := by decide +kernel
theorem dX8_init_197 : decode cX8_init 197 = .ok (.lastore, 1) := by decide +kernel
theorem dX8_init_198 : decode cX8_init 198 = .ok (.dup, 1) := by decide +kernel
theorem dX8_init_199 : decode cX8_init 199 = .ok (.bipush 10, 2) := by decide +kernel
theorem dX8_init_201 : decode cX8_init 201 = .ok (.ldc2_w 77, 3) := by decide +kernel
theorem dX8_init_204 : decode cX8_init 204 = .ok (.lastore, 1) := by decide +kernel
theorem dX8_init_205 : decode cX8_init 205 = .ok (.putfield 79, 3) := by decide +kernel
theorem dX8_init_208 : decode cX8_init 208 = .ok (.aload_n 0, 1) := by decide +kernel
theorem dX8_init_209 : decode cX8_init 209 = .ok (.bipush 7, 2) := by decide +kernel
theorem dX8_init_211 : decode cX8_init 211 = .ok (.newarray .long, 2) := by decide +kernel
theorem dX8_init_213 : decode cX8_init 213 = .ok (.dup, 1) := by decide +kernel
theorem dX8_init_214 : decode cX8_init 214 = .ok (.iconst 0, 1) := by decide +kernel
theorem dX8_init_215 : decode cX8_init 215 = .ok (.ldc2_w 75, 3) := by decide +kernel
theorem dX8_init_218 : decode cX8_init 218 = .ok (.lastore, 1) := by decide +kernel
theorem dX8_init_219 : decode cX8_init 219 = .ok (.dup, 1) := by decide +kernel
theorem dX8_init_220 : decode cX8_init 220 = .ok (.iconst 1, 1) := by decide +kernel
theorem dX8_init_221 : decode cX8_init 221 = .ok (.ldc2_w 83, 3) := by decide +kernel
theorem dX8_init_224 : decode cX8_init 224 = .ok (.lastore, 1) := by decide +kernel
theorem dX8_init_225 : decode cX8_init 225 = .ok (.dup, 1) := by decide +kernel
theorem dX8_init_226 : decode cX8_init 226 = .ok (.iconst 2, 1) := by decide +kernel
theorem dX8_init_227 : decode cX8_init 227 = .ok (.ldc2_w 85, 3) := by decide +kernel
theorem dX8_init_230 : decode cX8_init 230 = .ok (.lastore, 1) := by decide +kernel
theorem dX8_init_231 : decode cX8_init 231 = .ok (.dup, 1) := by decide +kernel
theorem dX8_init_232 : decode cX8_init 232 = .ok (.iconst 3, 1) := by decide +kernel
theorem dX8_init_233 : decode cX8_init 233 = .ok (.ldc2_w 87, 3) := by decide +kernel
theorem dX8_init_236 : decode cX8_init 236 = .ok (.lastore, 1) := by decide +kernel
theorem dX8_init_237 : decode cX8_init 237 = .ok (.dup, 1) := by decide +kernel
theorem dX8_init_238 : decode cX8_init 238 = .ok (.iconst 4, 1) := by decide +kernel
theorem dX8_init_239 : decode cX8_init 239 = .ok (.ldc2_w 89, 3) := by decide +kernel
theorem dX8_init_242 : decode cX8_init 242 = .ok (.lastore, 1) := by decide +kernel
theorem dX8_init_243 : decode cX8_init 243 = .ok (.dup, 1) := by decide +kernel
theorem dX8_init_244 : decode cX8_init 244 = .ok (.iconst 5, 1) := by decide +kernel
theorem dX8_init_245 : decode cX8_init 245 = .ok (.ldc2_w 65, 3) := by decide +kernel
theorem dX8_init_248 : decode cX8_init 248 = .ok (.lastore, 1) := by decide +kernel
theorem dX8_init_249 : decode cX8_init 249 = .ok (.dup, 1) := by decide +kernel
theorem dX8_init_250 : decode cX8_init 250 = .ok (.bipush 6, 2) := by decide +kernel
theorem dX8_init_252 : decode cX8_init 252 = .ok (.ldc2_w 73, 3) := by decide +kernel
theorem dX8_init_255 : decode cX8_init 255 = .ok (.lastore, 1) := by decide +kernel
theorem dX8_init_256 : decode cX8_init 256 = .ok (.putfield 91, 3) := by decide +kernel
theorem dX8_init_259 : decode cX8_init 259 = .ok (.aload_n 0, 1) := by decide +kernel
theorem dX8_init_260 : decode cX8_init 260 = .ok (.iconst 4, 1) := by decide +kernel
theorem dX8_init_261 : decode cX8_init 261 = .ok (.newarray .long, 2) := by decide +kernel
theorem dX8_init_263 : decode cX8_init 263 = .ok (.dup, 1) := by decide +kernel
theorem dX8_init_264 : decode cX8_init 264 = .ok (.iconst 0, 1) := by decide +kernel
theorem dX8_init_265 : decode cX8_init 265 = .ok (.ldc2_w 94, 3) := by decide +kernel
theorem dX8_init_268 : decode cX8_init 268 = .ok (.lastore, 1) := by decide +kernel
theorem dX8_init_269 : decode cX8_init 269 = .ok (.dup, 1) := by decide +kernel
theorem dX8_init_270 : decode cX8_init 270 = .ok (.iconst 1, 1) := by decide +kernel
theorem dX8_init_271 : decode cX8_init 271 = .ok (.ldc2_w 96, 3) := by decide +kernel
theorem dX8_init_274 : decode cX8_init 274 = .ok (.lastore, 1) := by decide +kernel
theorem dX8_init_275 : decode cX8_init 275 = .ok (.dup, 1) := by decide +kernel
theorem dX8_init_276 : decode cX8_init 276 = .ok (.iconst 2, 1) := by decide +kernel
theorem dX8_init_277 : decode cX8_init 277 = .ok (.ldc2_w 98, 3) := by decide +kernel
theorem dX8_init_280 : decode cX8_init 280 = .ok (.lastore, 1) := by decide +kernel
theorem dX8_init_281 : decode cX8_init 281 = .ok (.dup, 1) := by decide +kernel
theorem dX8_init_282 : decode cX8_init 282 = .ok (.iconst 3, 1) := by decide +kernel
theorem dX8_init_283 : decode cX8_init 283 = .ok (.ldc2_w 100, 3) := by decide +kernel
theorem dX8_init_286 : decode cX8_init 286 = .ok (.lastore, 1) := by decide +kernel
theorem dX8_init_287 : decode cX8_init 287 = .ok (.putfield 102, 3) := by decide +kernel
theorem dX8_init_290 : decode cX8_init 290 = .ok (.aload_n 0, 1) := by decide +kernel
theorem dX8_init_291 : decode cX8_init 291 = .ok (.bipush 13, 2) := by decide +kernel
theorem dX8_init_293 : decode cX8_init 293 = .ok (.newarray .long, 2) := by decide +kernel
theorem dX8_init_295 : decode cX8_init 295 = .ok (.putfield 105, 3) := by decide +kernel
theorem dX8_init_298 : decode cX8_init 298 = .ok (.aload_n 0, 1) := by decide +kernel
theorem dX8_init_299 : decode cX8_init 299 = .ok (.bipush 13, 2) := by decide +kernel
theorem dX8_init_301 : decode cX8_init 301 = .ok (.newarray .long, 2) := by decide +kernel
theorem dX8_init_303 : decode cX8_init 303 = .ok (.putfield 108, 3) := by decide +kernel
theorem dX8_init_306 : decode cX8_init 306 = .ok (.aload_n 0, 1) := by decide +kernel
theorem dX8_init_307 : decode cX8_init 307 = .ok (.sipush 400, 3) := by decide +kernel
theorem dX8_init_310 : decode cX8_init 310 = .ok (.newarray .long, 2) := by decide +kernel
theorem dX8_init_312 : decode cX8_init 312 = .ok (.putfield 111, 3) := by decide +kernel
theorem dX8_init_315 : decode cX8_init 315 = .ok (.aload_n 0, 1) := by decide +kernel
theorem dX8_init_316 : decode cX8_init 316 = .ok (.bipush 8, 2) := by decide +kernel
theorem dX8_init_318 : decode cX8_init 318 = .ok (.newarray .int, 2) := by decide +kernel
theorem dX8_init_320 : decode cX8_init 320 = .ok (.putfield 114, 3) := by decide +kernel
theorem dX8_init_323 : decode cX8_init 323 = .ok (.aload_n 0, 1) := by decide +kernel
theorem dX8_init_324 : decode cX8_init 324 = .ok (.sipush 2304, 3) := by decide +kernel
theorem dX8_init_327 : decode cX8_init 327 = .ok (.newarray .int, 2) := by decide +kernel
theorem dX8_init_329 : decode cX8_init 329 = .ok (.putfield 117, 3) := by decide +kernel
theorem dX8_init_332 : decode cX8_init 332 = .ok (.aload_n 0, 1) := by decide +kernel
theorem dX8_init_333 : decode cX8_init 333 = .ok (.bipush 25, 2) := by decide +kernel
theorem dX8_init_335 : decode cX8_init 335 = .ok (.newarray .int, 2) := by decide +kernel
theorem dX8_init_337 : decode cX8_init 337 = .ok (.putfield 120, 3) := by decide +kernel
theorem dX8_init_340 : decode cX8_init 340 = .ok (.aload_n 0, 1) := by decide +kernel
theorem dX8_init_341 : decode cX8_init 341 = .ok (.bipush 8, 2) := by decide +kernel
theorem dX8_init_343 : decode cX8_init 343 = .ok (.newarray .int, 2) := by decide +kernel
theorem dX8_init_345 : decode cX8_init 345 = .ok (.putfield 123, 3) := by decide +kernel
theorem dX8_init_348 : decode cX8_init 348 = .ok (.aload_n 0, 1) := by decide +kernel
theorem dX8_init_349 : decode cX8_init 349 = .ok (.bipush 7, 2) := by decide +kernel
theorem dX8_init_351 : decode cX8_init 351 = .ok (.newarray .int, 2) := by decide +kernel
theorem dX8_init_353 : decode cX8_init 353 = .ok (.putfield 126, 3) := by decide +kernel
theorem dX8_init_356 : decode cX8_init 356 = .ok (.aload_n 0, 1) := by decide +kernel
theorem dX8_init_357 : decode cX8_init 357 = .ok (.bipush 8, 2) := by decide +kernel
theorem dX8_init_359 : decode cX8_init 359 = .ok (.newarray .int, 2) := by decide +kernel
theorem dX8_init_361 : decode cX8_init 361 = .ok (.putfield 129, 3) := by decide +kernel
theorem dX8_init_364 : decode cX8_init 364 = .ok (.aload_n 0, 1) := by decide +kernel
theorem dX8_init_365 : decode cX8_init 365 = .ok (.bipush 8, 2) := by decide +kernel
theorem dX8_init_367 : decode cX8_init 367 = .ok (.newarray .int, 2) := by decide +kernel
theorem dX8_init_369 : decode cX8_init 369 = .ok (.putfield 132, 3) := by decide +kernel
theorem dX8_init_372 : decode cX8_init 372 = .ok (.aload_n 0, 1) := by decide +kernel
theorem dX8_init_373 : decode cX8_init 373 = .ok (.iconst 5, 1) := by decide +kernel
theorem dX8_init_374 : decode cX8_init 374 = .ok (.newarray .long, 2) := by decide +kernel
theorem dX8_init_376 : decode cX8_init 376 = .ok (.dup, 1) := by decide +kernel
theorem dX8_init_377 : decode cX8_init 377 = .ok (.iconst 0, 1) := by decide +kernel
theorem dX8_init_378 : decode cX8_init 378 = .ok (.ldc2_w 135, 3) := by decide +kernel
theorem dX8_init_381 : decode cX8_init 381 = .ok (.lastore, 1) := by decide +kernel
theorem dX8_init_382 : decode cX8_init 382 = .ok (.dup, 1) := by decide +kernel
theorem dX8_init_383 : decode cX8_init 383 = .ok (.iconst 1, 1) := by decide +kernel
theorem dX8_init_384 : decode cX8_init 384 = .ok (.ldc2_w 137, 3) := by decide +kernel
theorem dX8_init_387 : decode cX8_init 387 = .ok (.lastore, 1) := by decide +kernel
theorem dX8_init_388 : decode cX8_init 388 = .ok (.dup, 1) := by decide +kernel
theorem dX8_init_389 : decode cX8_init 389 = .ok (.iconst 2, 1) := by decide +kernel
theorem dX8_init_390 : decode cX8_init 390 = .ok (.ldc2_w 71, 3) := by decide +kernel
theorem dX8_init_393 : decode cX8_init 393 = .ok (.lastore, 1) := by decide +kernel
theorem dX8_init_394 : decode cX8_init 394 = .ok (.dup, 1) := by decide +kernel
theorem dX8_init_395 : decode cX8_init 395 = .ok (.iconst 3, 1) := by decide +kernel
theorem dX8_init_396 : decode cX8_init 396 = .ok (.ldc2_w 139, 3) := by decide +kernel
theorem dX8_init_399 : decode cX8_init 399 = .ok (.lastore, 1) := by decide +kernel
theorem dX8_init_400 : decode cX8_init 400 = .ok (.dup, 1) := by decide +kernel
theorem dX8_init_401 : decode cX8_init 401 = .ok (.iconst 4, 1) := by decide +kernel
theorem dX8_init_402 : decode cX8_init 402 = .ok (.ldc2_w 141, 3) := by decide +kernel
theorem dX8_init_405 : decode cX8_init 405 = .ok (.lastore, 1) := by decide +kernel
theorem dX8_init_406 : decode cX8_init 406 = .ok (.putfield 143, 3) := by decide +kernel
theorem dX8_init_409 : decode cX8_init 409 = .ok (.aload_n 0, 1) := by decide +kernel
theorem dX8_init_410 : decode cX8_init 410 = .ok (.bipush 96, 2) := by decide +kernel
theorem dX8_init_412 : decode cX8_init 412 = .ok (.newarray .int, 2) := by decide +kernel
theorem dX8_init_414 : decode cX8_init 414 = .ok (.putfield 146, 3) := by decide +kernel
theorem dX8_init_417 : decode cX8_init 417 = .ok (.aload_n 0, 1) := by decide +kernel
theorem dX8_init_418 : decode cX8_init 418 = .ok (.iconst (-1), 1) := by decide +kernel
theorem dX8_init_419 : decode cX8_init 419 = .ok (.putfield 149, 3) := by decide +kernel
theorem dX8_init_422 : decode cX8_init 422 = .ok (.aload_n 0, 1) := by decide +kernel
theorem dX8_init_423 : decode cX8_init 423 = .ok (.bipush 16, 2) := by decide +kernel
theorem dX8_init_425 : decode cX8_init 425 = .ok (.newarray .int, 2) := by decide +kernel
theorem dX8_init_427 : decode cX8_init 427 = .ok (.putfield 152, 3) := by decide +kernel
theorem dX8_init_430 : decode cX8_init 430 = .ok (.aload_n 0, 1) := by decide +kernel
theorem dX8_init_431 : decode cX8_init 431 = .ok (.bipush 25, 2) := by decide +kernel
theorem dX8_init_433 : decode cX8_init 433 = .ok (.newarray .int, 2) := by decide +kernel
theorem dX8_init_435 : decode cX8_init 435 = .ok (.putfield 155, 3) := by decide +kernel
theorem dX8_init_438 : decode cX8_init 438 = .ok (.aload_n 0, 1) := by decide +kernel
theorem dX8_init_439 : decode cX8_init 439 = .ok (.iconst (-1), 1) := by decide +kernel
theorem dX8_init_440 : decode cX8_init 440 = .ok (.putfield 158, 3) := by decide +kernel
theorem dX8_init_443 : decode cX8_init 443 = .ok (.aload_n 0, 1) := by decide +kernel
theorem dX8_init_444 : decode cX8_init 444 = .ok (.getfield 13, 3) := by decide +kernel
theorem dX8_init_447 : decode cX8_init 447 = .ok (.iconst 4, 1) := by decide +kernel
theorem dX8_init_448 : decode cX8_init 448 = .ok (.iconst (-1), 1) := by decide +kernel
theorem dX8_init_449 : decode cX8_init 449 = .ok (.iastore, 1) := by decide +kernel
theorem dX8_init_450 : decode cX8_init 450 = .ok (.iconst 0, 1) := by decide +kernel
theorem dX8_init_451 : decode cX8_init 451 = .ok (.istore_n 1, 1) := by decide +kernel
theorem dX8_init_452 : decode cX8_init 452 = .ok (.iload_n 1, 1) := by decide +kernel
theorem dX8_init_453 : decode cX8_init 453 = .ok (.bipush 25, 2) := by decide +kernel
theorem dX8_init_455 : decode cX8_init 455 = .ok (.if_icmp .ge 20, 3) := by decide +kernel
theorem dX8_init_458 : decode cX8_init 458 = .ok (.aload_n 0, 1) := by decide +kernel
theorem dX8_init_459 : decode cX8_init 459 = .ok (.getfield 13, 3) := by decide +kernel
theorem dX8_init_462 : decode cX8_init 462 = .ok (.bipush 39, 2) := by decide +kernel
theorem dX8_init_464 : decode cX8_init 464 = .ok (.iload_n 1, 1) := by decide +kernel
theorem dX8_init_465 : decode cX8_init 465 = .ok (.iadd, 1) := by decide +kernel
theorem dX8_init_466 : decode cX8_init 466 = .ok (.bipush 10, 2) := by decide +kernel
theorem dX8_init_468 : decode cX8_init 468 = .ok (.iastore, 1) := by decide +kernel
theorem dX8_init_469 : decode cX8_init 469 = .ok (.iinc 1 1, 3) := by decide +kernel
theorem dX8_init_472 : decode cX8_init 472 = .ok (.goto (-20), 3) := by decide +kernel
theorem dX8_init_475 : decode cX8_init 475 = .ok (.return_, 1) := by decide +kernel
theorem dX8_in_0 : decode cX8_in 0 = .ok (.lload_n 0, 1) := by decide +kernel
theorem dX8_in_1 : decode cX8_in 1 = .ok (.lload_n 2, 1) := by decide +kernel
theorem dX8_in_2 : decode cX8_in 2 = .ok (.lcmp, 1) := by decide +kernel
theorem dX8_in_3 : decode cX8_in 3 = .ok (.ifCond .lt 14, 3) := by decide +kernel
theorem dX8_in_6 : decode cX8_in 6 = .ok (.lload_n 0, 1) := by decide +kernel
theorem dX8_in_7 : decode cX8_in 7 = .ok (.lload 4, 2) := by decide +kernel
theorem dX8_in_9 : decode cX8_in 9 = .ok (.lcmp, 1) := by decide +kernel
theorem dX8_in_10 : decode cX8_in 10 = .ok (.ifCond .gt 7, 3) := by decide +kernel
theorem dX8_in_13 : decode cX8_in 13 = .ok (.iconst 1, 1) := by decide +kernel
theorem dX8_in_14 : decode cX8_in 14 = .ok (.goto 4, 3) := by decide +kernel
theorem dX8_in_17 : decode cX8_in 17 = .ok (.iconst 0, 1) := by decide +kernel
theorem dX8_in_18 : decode cX8_in 18 = .ok (.ireturn, 1) := by decide +kernel
theorem dX8_is_0 : decode cX8_is 0 = .ok (.iload_n 0, 1) := by decide +kernel
theorem dX8_is_1 : decode cX8_is 1 = .ok (.iload_n 1, 1) := by decide +kernel
theorem dX8_is_2 : decode cX8_is 2 = .ok (.ishr, 1) := by decide +kernel
theorem dX8_is_3 : decode cX8_is 3 = .ok (.iconst 1, 1) := by decide +kernel
theorem dX8_is_4 : decode cX8_is 4 = .ok (.iand, 1) := by decide +kernel
theorem dX8_is_5 : decode cX8_is 5 = .ok (.iconst 1, 1) := by decide +kernel
theorem dX8_is_6 : decode cX8_is 6 = .ok (.if_icmp .ne 7, 3) := by decide +kernel
theorem dX8_is_9 : decode cX8_is 9 = .ok (.iconst 1, 1) := by decide +kernel
theorem dX8_is_10 : decode cX8_is 10 = .ok (.goto 4, 3) := by decide +kernel
theorem dX8_is_13 : decode cX8_is 13 = .ok (.iconst 0, 1) := by decide +kernel
theorem dX8_is_14 : decode cX8_is 14 = .ok (.ireturn, 1) := by decide +kernel
theorem dX8_ones_0 : decode cX8_ones 0 = .ok (.iconst 0, 1) := by decide +kernel
theorem dX8_ones_1 : decode cX8_ones 1 = .ok (.istore_n 1, 1) := by decide +kernel
theorem dX8_ones_2 : decode cX8_ones 2 = .ok (.iconst 0, 1) := by decide +kernel
theorem dX8_ones_3 : decode cX8_ones 3 = .ok (.istore_n 2, 1) := by decide +kernel
theorem dX8_ones_4 : decode cX8_ones 4 = .ok (.iload_n 2, 1) := by decide +kernel
theorem dX8_ones_5 : decode cX8_ones 5 = .ok (.bipush 25, 2) := by decide +kernel
theorem dX8_ones_7 : decode cX8_ones 7 = .ok (.if_icmp .ge 17, 3) := by decide +kernel
theorem dX8_ones_10 : decode cX8_ones 10 = .ok (.iload_n 1, 1) := by decide +kernel
theorem dX8_ones_11 : decode cX8_ones 11 = .ok (.iload_n 0, 1) := by decide +kernel
theorem dX8_ones_12 : decode cX8_ones 12 = .ok (.iload_n 2, 1) := by decide +kernel
theorem dX8_ones_13 : decode cX8_ones 13 = .ok (.ishr, 1) := by decide +kernel
theorem dX8_ones_14 : decode cX8_ones 14 = .ok (.iconst 1, 1) := by decide +kernel
theorem dX8_ones_15 : decode cX8_ones 15 = .ok (.iand, 1) := by decide +kernel
theorem dX8_ones_16 : decode cX8_ones 16 = .ok (.iadd, 1) := by decide +kernel
theorem dX8_ones_17 : decode cX8_ones 17 = .ok (.istore_n 1, 1) := by decide +kernel
theorem dX8_ones_18 : decode cX8_ones 18 = .ok (.iinc 2 1, 3) := by decide +kernel
theorem dX8_ones_21 : decode cX8_ones 21 = .ok (.goto (-17), 3) := by decide +kernel
theorem dX8_ones_24 : decode cX8_ones 24 = .ok (.iload_n 1, 1) := by decide +kernel
theorem dX8_ones_25 : decode cX8_ones 25 = .ok (.ireturn, 1) := by decide +kernel
theorem dX8_within_0 : decode cX8_within 0 = .ok (.lload_n 0, 1) := by decide +kernel
theorem dX8_within_1 : decode cX8_within 1 = .ok (.iload_n 2, 1) := by decide +kernel
theorem dX8_within_2 : decode cX8_within 2 = .ok (.i2l, 1) := by decide +kernel
theorem dX8_within_3 : decode cX8_within 3 = .ok (.lcmp, 1) := by decide +kernel
theorem dX8_within_4 : decode cX8_within 4 = .ok (.ifCond .ge 7, 3) := by decide +kernel
theorem dX8_within_7 : decode cX8_within 7 = .ok (.iload_n 2, 1) := by decide +kernel
theorem dX8_within_8 : decode cX8_within 8 = .ok (.goto 16, 3) := by decide +kernel
theorem dX8_within_11 : decode cX8_within 11 = .ok (.lload_n 0, 1) := by decide +kernel
theorem dX8_within_12 : decode cX8_within 12 = .ok (.iload_n 3, 1) := by decide +kernel
theorem dX8_within_13 : decode cX8_within 13 = .ok (.i2l, 1) := by decide +kernel
theorem dX8_within_14 : decode cX8_within 14 = .ok (.lcmp, 1) := by decide +kernel
theorem dX8_within_15 : decode cX8_within 15 = .ok (.ifCond .le 7, 3) := by decide +kernel
theorem dX8_within_18 : decode cX8_within 18 = .ok (.iload_n 3, 1) := by decide +kernel
theorem dX8_within_19 : decode cX8_within 19 = .ok (.goto 5, 3) := by decide +kernel
theorem dX8_within_22 : decode cX8_within 22 = .ok (.lload_n 0, 1) := by decide +kernel
theorem dX8_within_23 : decode cX8_within 23 = .ok (.l2i, 1) := by decide +kernel
theorem dX8_within_24 : decode cX8_within 24 = .ok (.ireturn, 1) := by decide +kernel
theorem dX8_tell_0 : decode cX8_tell 0 = .ok (.aload_n 0, 1) := by decide +kernel
theorem dX8_tell_1 : decode cX8_tell 1 = .ok (.iload_n 1, 1) := by decide +kernel
theorem dX8_tell_2 : decode cX8_tell 2 = .ok (.ifCond .ge 7, 3) := by decide +kernel
theorem dX8_tell_5 : decode cX8_tell 5 = .ok (.iload_n 1, 1) := by decide +kernel
theorem dX8_tell_6 : decode cX8_tell 6 = .ok (.goto 4, 3) := by decide +kernel
theorem dX8_tell_9 : decode cX8_tell 9 = .ok (.iconst 0, 1) := by decide +kernel
theorem dX8_tell_10 : decode cX8_tell 10 = .ok (.putfield 164, 3) := by decide +kernel
theorem dX8_tell_13 : decode cX8_tell 13 = .ok (.iload_n 1, 1) := by decide +kernel
theorem dX8_tell_14 : decode cX8_tell 14 = .ok (.ifCond .ge 14, 3) := by decide +kernel
theorem dX8_tell_17 : decode cX8_tell 17 = .ok (.aload_n 0, 1) := by decide +kernel
theorem dX8_tell_18 : decode cX8_tell 18 = .ok (.getfield 7, 3) := by decide +kernel
theorem dX8_tell_21 : decode cX8_tell 21 = .ok (.iload_n 1, 1) := by decide +kernel
theorem dX8_tell_22 : decode cX8_tell 22 = .ok (.ineg, 1) := by decide +kernel
theorem dX8_tell_23 : decode cX8_tell 23 = .ok (.dup2, 1) := by decide +kernel
theorem dX8_tell_24 : decode cX8_tell 24 = .ok (.iaload, 1) := by decide +kernel
theorem dX8_tell_25 : decode cX8_tell 25 = .ok (.iconst 1, 1) := by decide +kernel
theorem dX8_tell_26 : decode cX8_tell 26 = .ok (.iadd, 1) := by decide +kernel
theorem dX8_tell_27 : decode cX8_tell 27 = .ok (.iastore, 1) := by decide +kernel
theorem dX8_tell_28 : decode cX8_tell 28 = .ok (.iload_n 1, 1) := by decide +kernel
theorem dX8_tell_29 : decode cX8_tell 29 = .ok (.ireturn, 1) := by decide +kernel
theorem dX8_change_0 : decode cX8_change 0 = .ok (.aload_n 0, 1) := by decide +kernel
theorem dX8_change_1 : decode cX8_change 1 = .ok (.getfield 13, 3) := by decide +kernel
theorem dX8_change_4 : decode cX8_change 4 = .ok (.iload_n 1, 1) := by decide +kernel
theorem dX8_change_5 : decode cX8_change 5 = .ok (.iaload, 1) := by decide +kernel
theorem dX8_change_6 : decode cX8_change 6 = .ok (.istore_n 3, 1) := by decide +kernel
theorem dX8_change_7 : decode cX8_change 7 = .ok (.aload_n 0, 1) := by decide +kernel
theorem dX8_change_8 : decode cX8_change 8 = .ok (.getfield 13, 3) := by decide +kernel
theorem dX8_change_11 : decode cX8_change 11 = .ok (.iload_n 1, 1) := by decide +kernel
theorem dX8_change_12 : decode cX8_change 12 = .ok (.iload_n 2, 1) := by decide +kernel
theorem dX8_change_13 : decode cX8_change 13 = .ok (.iastore, 1) := by decide +kernel
theorem dX8_change_14 : decode cX8_change 14 = .ok (.aload_n 0, 1) := by decide +kernel
theorem dX8_change_15 : decode cX8_change 15 = .ok (.iconst 0, 1) := by decide +kernel
theorem dX8_change_16 : decode cX8_change 16 = .ok (.putfield 164, 3) := by decide +kernel
theorem dX8_change_19 : decode cX8_change 19 = .ok (.iload_n 3, 1) := by decide +kernel
theorem dX8_change_20 : decode cX8_change 20 = .ok (.ireturn, 1) := by decide +kernel
theorem dX8_settled_0 : decode cX8_settled 0 = .ok (.aload_n 0, 1) := by decide +kernel
theorem dX8_settled_1 : decode cX8_settled 1 = .ok (.iload_n 1, 1) := by decide +kernel
theorem dX8_settled_2 : decode cX8_settled 2 = .ok (.ifCond .ge 10, 3) := by decide +kernel
theorem dX8_settled_5 : decode cX8_settled 5 = .ok (.aload_n 0, 1) := by decide +kernel
theorem dX8_settled_6 : decode cX8_settled 6 = .ok (.getfield 167, 3) := by decide +kernel
theorem dX8_settled_9 : decode cX8_settled 9 = .ok (.goto 4, 3) := by decide +kernel
theorem dX8_settled_12 : decode cX8_settled 12 = .ok (.iconst 0, 1) := by decide +kernel
theorem dX8_settled_13 : decode cX8_settled 13 = .ok (.putfield 167, 3) := by decide +kernel
theorem dX8_settled_16 : decode cX8_settled 16 = .ok (.aload_n 0, 1) := by decide +kernel
theorem dX8_settled_17 : decode cX8_settled 17 = .ok (.iload_n 1, 1) := by decide +kernel
theorem dX8_settled_18 : decode cX8_settled 18 = .ok (.invokevirtual 170, 3) := by decide +kernel
theorem dX8_settled_21 : decode cX8_settled 21 = .ok (.ireturn, 1) := by decide +kernel
theorem dX8_keepAll_0 : decode cX8_keepAll 0 = .ok (.iconst 0, 1) := by decide +kernel
theorem dX8_keepAll_1 : decode cX8_keepAll 1 = .ok (.istore_n 2, 1) := by decide +kernel
theorem dX8_keepAll_2 : decode cX8_keepAll 2 = .ok (.iload_n 2, 1) := by decide +kernel
theorem dX8_keepAll_3 : decode cX8_keepAll 3 = .ok (.bipush 59, 2) := by decide +kernel
theorem dX8_keepAll_5 : decode cX8_keepAll 5 = .ok (.if_icmp .ge 28, 3) := by decide +kernel
theorem dX8_keepAll_8 : decode cX8_keepAll 8 = .ok (.aload_n 0, 1) := by decide +kernel
theorem dX8_keepAll_9 : decode cX8_keepAll 9 = .ok (.getfield 23, 3) := by decide +kernel
theorem dX8_keepAll_12 : decode cX8_keepAll 12 = .ok (.bipush 59, 2) := by decide +kernel
theorem dX8_keepAll_14 : decode cX8_keepAll 14 = .ok (.iload_n 1, 1) := by decide +kernel
theorem dX8_keepAll_15 : decode cX8_keepAll 15 = .ok (.imul, 1) := by decide +kernel
theorem dX8_keepAll_16 : decode cX8_keepAll 16 = .ok (.iload_n 2, 1) := by decide +kernel
theorem dX8_keepAll_17 : decode cX8_keepAll 17 = .ok (.iadd, 1) := by decide +kernel
theorem dX8_keepAll_18 : decode cX8_keepAll 18 = .ok (.aload_n 0, 1) := by decide +kernel
theorem dX8_keepAll_19 : decode cX8_keepAll 19 = .ok (.getfield 13, 3) := by decide +kernel
theorem dX8_keepAll_22 : decode cX8_keepAll 22 = .ok (.iconst 5, 1) := by decide +kernel
theorem dX8_keepAll_23 : decode cX8_keepAll 23 = .ok (.iload_n 2, 1) := by decide +kernel
theorem dX8_keepAll_24 : decode cX8_keepAll 24 = .ok (.iadd, 1) := by decide +kernel
theorem dX8_keepAll_25 : decode cX8_keepAll 25 = .ok (.iaload, 1) := by decide +kernel
theorem dX8_keepAll_26 : decode cX8_keepAll 26 = .ok (.iastore, 1) := by decide +kernel
theorem dX8_keepAll_27 : decode cX8_keepAll 27 = .ok (.iinc 2 1, 3) := by decide +kernel
theorem dX8_keepAll_30 : decode cX8_keepAll 30 = .ok (.goto (-28), 3) := by decide +kernel
theorem dX8_keepAll_33 : decode cX8_keepAll 33 = .ok (.return_, 1) := by decide +kernel
theorem dX8_putBack_0 : decode cX8_putBack 0 = .ok (.iconst 0, 1) := by decide +kernel
theorem dX8_putBack_1 : decode cX8_putBack 1 = .ok (.istore_n 2, 1) := by decide +kernel
theorem dX8_putBack_2 : decode cX8_putBack 2 = .ok (.iload_n 2, 1) := by decide +kernel
theorem dX8_putBack_3 : decode cX8_putBack 3 = .ok (.bipush 59, 2) := by decide +kernel
theorem dX8_putBack_5 : decode cX8_putBack 5 = .ok (.if_icmp .ge 28, 3) := by decide +kernel
theorem dX8_putBack_8 : decode cX8_putBack 8 = .ok (.aload_n 0, 1) := by decide +kernel
theorem dX8_putBack_9 : decode cX8_putBack 9 = .ok (.getfield 13, 3) := by decide +kernel
theorem dX8_putBack_12 : decode cX8_putBack 12 = .ok (.iconst 5, 1) := by decide +kernel
theorem dX8_putBack_13 : decode cX8_putBack 13 = .ok (.iload_n 2, 1) := by decide +kernel
theorem dX8_putBack_14 : decode cX8_putBack 14 = .ok (.iadd, 1) := by decide +kernel
theorem dX8_putBack_15 : decode cX8_putBack 15 = .ok (.aload_n 0, 1) := by decide +kernel
theorem dX8_putBack_16 : decode cX8_putBack 16 = .ok (.getfield 23, 3) := by decide +kernel
theorem dX8_putBack_19 : decode cX8_putBack 19 = .ok (.bipush 59, 2) := by decide +kernel
theorem dX8_putBack_21 : decode cX8_putBack 21 = .ok (.iload_n 1, 1) := by decide +kernel
theorem dX8_putBack_22 : decode cX8_putBack 22 = .ok (.imul, 1) := by decide +kernel
theorem dX8_putBack_23 : decode cX8_putBack 23 = .ok (.iload_n 2, 1) := by decide +kernel
theorem dX8_putBack_24 : decode cX8_putBack 24 = .ok (.iadd, 1) := by decide +kernel
theorem dX8_putBack_25 : decode cX8_putBack 25 = .ok (.iaload, 1) := by decide +kernel
theorem dX8_putBack_26 : decode cX8_putBack 26 = .ok (.iastore, 1) := by decide +kernel
theorem dX8_putBack_27 : decode cX8_putBack 27 = .ok (.iinc 2 1, 3) := by decide +kernel
theorem dX8_putBack_30 : decode cX8_putBack 30 = .ok (.goto (-28), 3) := by decide +kernel
theorem dX8_putBack_33 : decode cX8_putBack 33 = .ok (.return_, 1) := by decide +kernel
theorem dX8_remember_0 : decode cX8_remember 0 = .ok (.aload_n 0, 1) := by decide +kernel
theorem dX8_remember_1 : decode cX8_remember 1 = .ok (.getfield 167, 3) := by decide +kernel
theorem dX8_remember_4 : decode cX8_remember 4 = .ok (.bipush 16, 2) := by decide +kernel
theorem dX8_remember_6 : decode cX8_remember 6 = .ok (.if_icmp .ne 71, 3) := by decide +kernel
theorem dX8_remember_9 : decode cX8_remember 9 = .ok (.iconst 0, 1) := by decide +kernel
theorem dX8_remember_10 : decode cX8_remember 10 = .ok (.istore_n 2, 1) := by decide +kernel
theorem dX8_remember_11 : decode cX8_remember 11 = .ok (.iload_n 2, 1) := by decide +kernel
theorem dX8_remember_12 : decode cX8_remember 12 = .ok (.sipush 885, 3) := by decide +kernel
theorem dX8_remember_15 : decode cX8_remember 15 = .ok (.if_icmp .ge 24, 3) := by decide +kernel
theorem dX8_remember_18 : decode cX8_remember 18 = .ok (.aload_n 0, 1) := by decide +kernel
theorem dX8_remember_19 : decode cX8_remember 19 = .ok (.getfield 23, 3) := by decide +kernel
theorem dX8_remember_22 : decode cX8_remember 22 = .ok (.iload_n 2, 1) := by decide +kernel
theorem dX8_remember_23 : decode cX8_remember 23 = .ok (.aload_n 0, 1) := by decide +kernel
theorem dX8_remember_24 : decode cX8_remember 24 = .ok (.getfield 23, 3) := by decide +kernel
theorem dX8_remember_27 : decode cX8_remember 27 = .ok (.iload_n 2, 1) := by decide +kernel
theorem dX8_remember_28 : decode cX8_remember 28 = .ok (.bipush 59, 2) := by decide +kernel
theorem dX8_remember_30 : decode cX8_remember 30 = .ok (.iadd, 1) := by decide +kernel
theorem dX8_remember_31 : decode cX8_remember 31 = .ok (.iaload, 1) := by decide +kernel
theorem dX8_remember_32 : decode cX8_remember 32 = .ok (.iastore, 1) := by decide +kernel
theorem dX8_remember_33 : decode cX8_remember 33 = .ok (.iinc 2 1, 3) := by decide +kernel
theorem dX8_remember_36 : decode cX8_remember 36 = .ok (.goto (-25), 3) := by decide +kernel
theorem dX8_remember_39 : decode cX8_remember 39 = .ok (.iconst 0, 1) := by decide +kernel
theorem dX8_remember_40 : decode cX8_remember 40 = .ok (.istore_n 2, 1) := by decide +kernel
theorem dX8_remember_41 : decode cX8_remember 41 = .ok (.iload_n 2, 1) := by decide +kernel
theorem dX8_remember_42 : decode cX8_remember 42 = .ok (.bipush 15, 2) := by decide +kernel
theorem dX8_remember_44 : decode cX8_remember 44 = .ok (.if_icmp .ge 23, 3) := by decide +kernel
theorem dX8_remember_47 : decode cX8_remember 47 = .ok (.aload_n 0, 1) := by decide +kernel
theorem dX8_remember_48 : decode cX8_remember 48 = .ok (.getfield 26, 3) := by decide +kernel
theorem dX8_remember_51 : decode cX8_remember 51 = .ok (.iload_n 2, 1) := by decide +kernel
theorem dX8_remember_52 : decode cX8_remember 52 = .ok (.aload_n 0, 1) := by decide +kernel
theorem dX8_remember_53 : decode cX8_remember 53 = .ok (.getfield 26, 3) := by decide +kernel
theorem dX8_remember_56 : decode cX8_remember 56 = .ok (.iload_n 2, 1) := by decide +kernel
theorem dX8_remember_57 : decode cX8_remember 57 = .ok (.iconst 1, 1) := by decide +kernel
theorem dX8_remember_58 : decode cX8_remember 58 = .ok (.iadd, 1) := by decide +kernel
theorem dX8_remember_59 : decode cX8_remember 59 = .ok (.iaload, 1) := by decide +kernel
theorem dX8_remember_60 : decode cX8_remember 60 = .ok (.iastore, 1) := by decide +kernel
theorem dX8_remember_61 : decode cX8_remember 61 = .ok (.iinc 2 1, 3) := by decide +kernel
theorem dX8_remember_64 : decode cX8_remember 64 = .ok (.goto (-23), 3) := by decide +kernel
theorem dX8_remember_67 : decode cX8_remember 67 = .ok (.aload_n 0, 1) := by decide +kernel
theorem dX8_remember_68 : decode cX8_remember 68 = .ok (.dup, 1) := by decide +kernel
theorem dX8_remember_69 : decode cX8_remember 69 = .ok (.getfield 167, 3) := by decide +kernel
theorem dX8_remember_72 : decode cX8_remember 72 = .ok (.iconst 1, 1) := by decide +kernel
theorem dX8_remember_73 : decode cX8_remember 73 = .ok (.isub, 1) := by decide +kernel
theorem dX8_remember_74 : decode cX8_remember 74 = .ok (.putfield 167, 3) := by decide +kernel
theorem dX8_remember_77 : decode cX8_remember 77 = .ok (.aload_n 0, 1) := by decide +kernel
theorem dX8_remember_78 : decode cX8_remember 78 = .ok (.aload_n 0, 1) := by decide +kernel
theorem dX8_remember_79 : decode cX8_remember 79 = .ok (.getfield 167, 3) := by decide +kernel
theorem dX8_remember_82 : decode cX8_remember 82 = .ok (.invokevirtual 174, 3) := by decide +kernel
theorem dX8_remember_85 : decode cX8_remember 85 = .ok (.aload_n 0, 1) := by decide +kernel
theorem dX8_remember_86 : decode cX8_remember 86 = .ok (.getfield 26, 3) := by decide +kernel
theorem dX8_remember_89 : decode cX8_remember 89 = .ok (.aload_n 0, 1) := by decide +kernel
theorem dX8_remember_90 : decode cX8_remember 90 = .ok (.getfield 167, 3) := by decide +kernel
theorem dX8_remember_93 : decode cX8_remember 93 = .ok (.iload_n 1, 1) := by decide +kernel
theorem dX8_remember_94 : decode cX8_remember 94 = .ok (.iastore, 1) := by decide +kernel
theorem dX8_remember_95 : decode cX8_remember 95 = .ok (.aload_n 0, 1) := by decide +kernel
theorem dX8_remember_96 : decode cX8_remember 96 = .ok (.dup, 1) := by decide +kernel
theorem dX8_remember_97 : decode cX8_remember 97 = .ok (.getfield 167, 3) := by decide +kernel
theorem dX8_remember_100 : decode cX8_remember 100 = .ok (.iconst 1, 1) := by decide +kernel
theorem dX8_remember_101 : decode cX8_remember 101 = .ok (.iadd, 1) := by decide +kernel
theorem dX8_remember_102 : decode cX8_remember 102 = .ok (.putfield 167, 3) := by decide +kernel
theorem dX8_remember_105 : decode cX8_remember 105 = .ok (.return_, 1) := by decide +kernel
theorem dX8_undo_0 : decode cX8_undo 0 = .ok (.aload_n 0, 1) := by decide +kernel
theorem dX8_undo_1 : decode cX8_undo 1 = .ok (.iconst 0, 1) := by decide +kernel
theorem dX8_undo_2 : decode cX8_undo 2 = .ok (.putfield 161, 3) := by decide +kernel
theorem dX8_undo_5 : decode cX8_undo 5 = .ok (.aload_n 0, 1) := by decide +kernel
theorem dX8_undo_6 : decode cX8_undo 6 = .ok (.getfield 167, 3) := by decide +kernel
theorem dX8_undo_9 : decode cX8_undo 9 = .ok (.ifCond .ne 10, 3) := by decide +kernel
theorem dX8_undo_12 : decode cX8_undo 12 = .ok (.aload_n 0, 1) := by decide +kernel
theorem dX8_undo_13 : decode cX8_undo 13 = .ok (.bipush (-3), 2) := by decide +kernel
theorem dX8_undo_15 : decode cX8_undo 15 = .ok (.invokevirtual 170, 3) := by decide +kernel
theorem dX8_undo_18 : decode cX8_undo 18 = .ok (.ireturn, 1) := by decide +kernel
theorem dX8_undo_19 : decode cX8_undo 19 = .ok (.aload_n 0, 1) := by decide +kernel
theorem dX8_undo_20 : decode cX8_undo 20 = .ok (.dup, 1) := by decide +kernel
theorem dX8_undo_21 : decode cX8_undo 21 = .ok (.getfield 167, 3) := by decide +kernel
theorem dX8_undo_24 : decode cX8_undo 24 = .ok (.iconst 1, 1) := by decide +kernel
theorem dX8_undo_25 : decode cX8_undo 25 = .ok (.isub, 1) := by decide +kernel
theorem dX8_undo_26 : decode cX8_undo 26 = .ok (.putfield 167, 3) := by decide +kernel
theorem dX8_undo_29 : decode cX8_undo 29 = .ok (.aload_n 0, 1) := by decide +kernel
theorem dX8_undo_30 : decode cX8_undo 30 = .ok (.aload_n 0, 1) := by decide +kernel
theorem dX8_undo_31 : decode cX8_undo 31 = .ok (.getfield 167, 3) := by decide +kernel
theorem dX8_undo_34 : decode cX8_undo 34 = .ok (.invokevirtual 178, 3) := by decide +kernel
theorem dX8_undo_37 : decode cX8_undo 37 = .ok (.aload_n 0, 1) := by decide +kernel
theorem dX8_undo_38 : decode cX8_undo 38 = .ok (.aload_n 0, 1) := by decide +kernel
theorem dX8_undo_39 : decode cX8_undo 39 = .ok (.getfield 26, 3) := by decide +kernel
theorem dX8_undo_42 : decode cX8_undo 42 = .ok (.aload_n 0, 1) := by decide +kernel
theorem dX8_undo_43 : decode cX8_undo 43 = .ok (.getfield 167, 3) := by decide +kernel
theorem dX8_undo_46 : decode cX8_undo 46 = .ok (.iaload, 1) := by decide +kernel
theorem dX8_undo_47 : decode cX8_undo 47 = .ok (.invokevirtual 170, 3) := by decide +kernel
theorem dX8_undo_50 : decode cX8_undo 50 = .ok (.ireturn, 1) := by decide +kernel
theorem dX8_image_0 : decode cX8_image 0 = .ok (.aload_n 0, 1) := by decide +kernel
theorem dX8_image_1 : decode cX8_image 1 = .ok (.iconst 0, 1) := by decide +kernel
theorem dX8_image_2 : decode cX8_image 2 = .ok (.putfield 161, 3) := by decide +kernel
theorem dX8_image_5 : decode cX8_image 5 = .ok (.iload_n 1, 1) := by decide +kernel
theorem dX8_image_6 : decode cX8_image 6 = .ok (.i2l, 1) := by decide +kernel
theorem dX8_image_7 : decode cX8_image 7 = .ok (.lconst 0, 1) := by decide +kernel
theorem dX8_image_8 : decode cX8_image 8 = .ok (.lconst 1, 1) := by decide +kernel
theorem dX8_image_9 : decode cX8_image 9 = .ok (.invokestatic 181, 3) := by decide +kernel
theorem dX8_image_12 : decode cX8_image 12 = .ok (.ifCond .ne 9, 3) := by decide +kernel
theorem dX8_image_15 : decode cX8_image 15 = .ok (.aload_n 0, 1) := by decide +kernel
theorem dX8_image_16 : decode cX8_image 16 = .ok (.iconst (-1), 1) := by decide +kernel
theorem dX8_image_17 : decode cX8_image 17 = .ok (.invokevirtual 170, 3) := by decide +kernel
theorem dX8_image_20 : decode cX8_image 20 = .ok (.ireturn, 1) := by decide +kernel
theorem dX8_image_21 : decode cX8_image 21 = .ok (.iconst 0, 1) := by decide +kernel
theorem dX8_image_22 : decode cX8_image 22 = .ok (.istore_n 2, 1) := by decide +kernel
theorem dX8_image_23 : decode cX8_image 23 = .ok (.iload_n 2, 1) := by decide +kernel
theorem dX8_image_24 : decode cX8_image 24 = .ok (.sipush 5540, 3) := by decide +kernel
theorem dX8_image_27 : decode cX8_image 27 = .ok (.if_icmp .ge 27, 3) := by decide +kernel
theorem dX8_image_30 : decode cX8_image 30 = .ok (.aload_n 0, 1) := by decide +kernel
theorem dX8_image_31 : decode cX8_image 31 = .ok (.getfield 16, 3) := by decide +kernel
theorem dX8_image_34 : decode cX8_image 34 = .ok (.sipush 5540, 3) := by decide +kernel
theorem dX8_image_37 : decode cX8_image 37 = .ok (.iload_n 1, 1) := by decide +kernel
theorem dX8_image_38 : decode cX8_image 38 = .ok (.imul, 1) := by decide +kernel
theorem dX8_image_39 : decode cX8_image 39 = .ok (.iload_n 2, 1) := by decide +kernel
theorem dX8_image_40 : decode cX8_image 40 = .ok (.iadd, 1) := by decide +kernel
theorem dX8_image_41 : decode cX8_image 41 = .ok (.aload_n 0, 1) := by decide +kernel
theorem dX8_image_42 : decode cX8_image 42 = .ok (.getfield 13, 3) := by decide +kernel
theorem dX8_image_45 : decode cX8_image 45 = .ok (.iload_n 2, 1) := by decide +kernel
theorem dX8_image_46 : decode cX8_image 46 = .ok (.iaload, 1) := by decide +kernel
theorem dX8_image_47 : decode cX8_image 47 = .ok (.iastore, 1) := by decide +kernel
theorem dX8_image_48 : decode cX8_image 48 = .ok (.iinc 2 1, 3) := by decide +kernel
theorem dX8_image_51 : decode cX8_image 51 = .ok (.goto (-28), 3) := by decide +kernel
theorem dX8_image_54 : decode cX8_image 54 = .ok (.aload_n 0, 1) := by decide +kernel
theorem dX8_image_55 : decode cX8_image 55 = .ok (.getfield 19, 3) := by decide +kernel
theorem dX8_image_58 : decode cX8_image 58 = .ok (.iload_n 1, 1) := by decide +kernel
theorem dX8_image_59 : decode cX8_image 59 = .ok (.iconst 1, 1) := by decide +kernel
theorem dX8_image_60 : decode cX8_image 60 = .ok (.bastore, 1) := by decide +kernel
theorem dX8_image_61 : decode cX8_image 61 = .ok (.aload_n 0, 1) := by decide +kernel
theorem dX8_image_62 : decode cX8_image 62 = .ok (.iconst 0, 1) := by decide +kernel
theorem dX8_image_63 : decode cX8_image 63 = .ok (.invokevirtual 170, 3) := by decide +kernel
theorem dX8_image_66 : decode cX8_image 66 = .ok (.ireturn, 1) := by decide +kernel
theorem dX8_back_0 : decode cX8_back 0 = .ok (.aload_n 0, 1) := by decide +kernel
theorem dX8_back_1 : decode cX8_back 1 = .ok (.iconst 0, 1) := by decide +kernel
theorem dX8_back_2 : decode cX8_back 2 = .ok (.putfield 161, 3) := by decide +kernel
theorem dX8_back_5 : decode cX8_back 5 = .ok (.iload_n 1, 1) := by decide +kernel
theorem dX8_back_6 : decode cX8_back 6 = .ok (.i2l, 1) := by decide +kernel
theorem dX8_back_7 : decode cX8_back 7 = .ok (.lconst 0, 1) := by decide +kernel
theorem dX8_back_8 : decode cX8_back 8 = .ok (.lconst 1, 1) := by decide +kernel
theorem dX8_back_9 : decode cX8_back 9 = .ok (.invokestatic 181, 3) := by decide +kernel
theorem dX8_back_12 : decode cX8_back 12 = .ok (.ifCond .ne 9, 3) := by decide +kernel
theorem dX8_back_15 : decode cX8_back 15 = .ok (.aload_n 0, 1) := by decide +kernel
theorem dX8_back_16 : decode cX8_back 16 = .ok (.iconst (-1), 1) := by decide +kernel
theorem dX8_back_17 : decode cX8_back 17 = .ok (.invokevirtual 170, 3) := by decide +kernel
theorem dX8_back_20 : decode cX8_back 20 = .ok (.ireturn, 1) := by decide +kernel
theorem dX8_back_21 : decode cX8_back 21 = .ok (.aload_n 0, 1) := by decide +kernel
theorem dX8_back_22 : decode cX8_back 22 = .ok (.getfield 19, 3) := by decide +kernel
theorem dX8_back_25 : decode cX8_back 25 = .ok (.iload_n 1, 1) := by decide +kernel
theorem dX8_back_26 : decode cX8_back 26 = .ok (.baload, 1) := by decide +kernel
theorem dX8_back_27 : decode cX8_back 27 = .ok (.ifCond .ne 10, 3) := by decide +kernel
theorem dX8_back_30 : decode cX8_back 30 = .ok (.aload_n 0, 1) := by decide +kernel
theorem dX8_back_31 : decode cX8_back 31 = .ok (.bipush (-2), 2) := by decide +kernel
theorem dX8_back_33 : decode cX8_back 33 = .ok (.invokevirtual 170, 3) := by decide +kernel
theorem dX8_back_36 : decode cX8_back 36 = .ok (.ireturn, 1) := by decide +kernel
theorem dX8_back_37 : decode cX8_back 37 = .ok (.iconst 0, 1) := by decide +kernel
theorem dX8_back_38 : decode cX8_back 38 = .ok (.istore_n 2, 1) := by decide +kernel
theorem dX8_back_39 : decode cX8_back 39 = .ok (.iload_n 2, 1) := by decide +kernel
theorem dX8_back_40 : decode cX8_back 40 = .ok (.sipush 5540, 3) := by decide +kernel
theorem dX8_back_43 : decode cX8_back 43 = .ok (.if_icmp .ge 27, 3) := by decide +kernel
theorem dX8_back_46 : decode cX8_back 46 = .ok (.aload_n 0, 1) := by decide +kernel
theorem dX8_back_47 : decode cX8_back 47 = .ok (.getfield 13, 3) := by decide +kernel
theorem dX8_back_50 : decode cX8_back 50 = .ok (.iload_n 2, 1) := by decide +kernel
theorem dX8_back_51 : decode cX8_back 51 = .ok (.aload_n 0, 1) := by decide +kernel
theorem dX8_back_52 : decode cX8_back 52 = .ok (.getfield 16, 3) := by decide +kernel
theorem dX8_back_55 : decode cX8_back 55 = .ok (.sipush 5540, 3) := by decide +kernel
theorem dX8_back_58 : decode cX8_back 58 = .ok (.iload_n 1, 1) := by decide +kernel
theorem dX8_back_59 : decode cX8_back 59 = .ok (.imul, 1) := by decide +kernel
theorem dX8_back_60 : decode cX8_back 60 = .ok (.iload_n 2, 1) := by decide +kernel
theorem dX8_back_61 : decode cX8_back 61 = .ok (.iadd, 1) := by decide +kernel
theorem dX8_back_62 : decode cX8_back 62 = .ok (.iaload, 1) := by decide +kernel
theorem dX8_back_63 : decode cX8_back 63 = .ok (.iastore, 1) := by decide +kernel
theorem dX8_back_64 : decode cX8_back 64 = .ok (.iinc 2 1, 3) := by decide +kernel
theorem dX8_back_67 : decode cX8_back 67 = .ok (.goto (-28), 3) := by decide +kernel
theorem dX8_back_70 : decode cX8_back 70 = .ok (.aload_n 0, 1) := by decide +kernel
theorem dX8_back_71 : decode cX8_back 71 = .ok (.iconst 0, 1) := by decide +kernel
theorem dX8_back_72 : decode cX8_back 72 = .ok (.invokevirtual 185, 3) := by decide +kernel
theorem dX8_back_75 : decode cX8_back 75 = .ok (.ireturn, 1) := by decide +kernel
theorem dX8_isHouse_0 : decode cX8_isHouse 0 = .ok (.iload_n 1, 1) := by decide +kernel
theorem dX8_isHouse_1 : decode cX8_isHouse 1 = .ok (.i2l, 1) := by decide +kernel
theorem dX8_isHouse_2 : decode cX8_isHouse 2 = .ok (.lconst 0, 1) := by decide +kernel
theorem dX8_isHouse_3 : decode cX8_isHouse 3 = .ok (.aload_n 0, 1) := by decide +kernel
theorem dX8_isHouse_4 : decode cX8_isHouse 4 = .ok (.getfield 13, 3) := by decide +kernel
theorem dX8_isHouse_7 : decode cX8_isHouse 7 = .ok (.iconst 0, 1) := by decide +kernel
theorem dX8_isHouse_8 : decode cX8_isHouse 8 = .ok (.iaload, 1) := by decide +kernel
theorem dX8_isHouse_9 : decode cX8_isHouse 9 = .ok (.i2l, 1) := by decide +kernel
theorem dX8_isHouse_10 : decode cX8_isHouse 10 = .ok (.lconst 1, 1) := by decide +kernel
theorem dX8_isHouse_11 : decode cX8_isHouse 11 = .ok (.lsub, 1) := by decide +kernel
theorem dX8_isHouse_12 : decode cX8_isHouse 12 = .ok (.invokestatic 181, 3) := by decide +kernel
theorem dX8_isHouse_15 : decode cX8_isHouse 15 = .ok (.ireturn, 1) := by decide +kernel
theorem dX8_isDoor_0 : decode cX8_isDoor 0 = .ok (.iload_n 1, 1) := by decide +kernel
theorem dX8_isDoor_1 : decode cX8_isDoor 1 = .ok (.i2l, 1) := by decide +kernel
theorem dX8_isDoor_2 : decode cX8_isDoor 2 = .ok (.lconst 0, 1) := by decide +kernel
theorem dX8_isDoor_3 : decode cX8_isDoor 3 = .ok (.aload_n 0, 1) := by decide +kernel
theorem dX8_isDoor_4 : decode cX8_isDoor 4 = .ok (.getfield 13, 3) := by decide +kernel
theorem dX8_isDoor_7 : decode cX8_isDoor 7 = .ok (.iconst 1, 1) := by decide +kernel
theorem dX8_isDoor_8 : decode cX8_isDoor 8 = .ok (.iaload, 1) := by decide +kernel
theorem dX8_isDoor_9 : decode cX8_isDoor 9 = .ok (.i2l, 1) := by decide +kernel
theorem dX8_isDoor_10 : decode cX8_isDoor 10 = .ok (.lconst 1, 1) := by decide +kernel
theorem dX8_isDoor_11 : decode cX8_isDoor 11 = .ok (.lsub, 1) := by decide +kernel
theorem dX8_isDoor_12 : decode cX8_isDoor 12 = .ok (.invokestatic 181, 3) := by decide +kernel
theorem dX8_isDoor_15 : decode cX8_isDoor 15 = .ok (.ireturn, 1) := by decide +kernel
theorem dX8_isCell_0 : decode cX8_isCell 0 = .ok (.iload_n 0, 1) := by decide +kernel
theorem dX8_isCell_1 : decode cX8_isCell 1 = .ok (.i2l, 1) := by decide +kernel
theorem dX8_isCell_2 : decode cX8_isCell 2 = .ok (.lconst 0, 1) := by decide +kernel
theorem dX8_isCell_3 : decode cX8_isCell 3 = .ok (.ldc2_w 188, 3) := by decide +kernel
theorem dX8_isCell_6 : decode cX8_isCell 6 = .ok (.invokestatic 181, 3) := by decide +kernel
theorem dX8_isCell_9 : decode cX8_isCell 9 = .ok (.ireturn, 1) := by decide +kernel
theorem dX8_isAtSea_0 : decode cX8_isAtSea 0 = .ok (.aload_n 0, 1) := by decide +kernel
theorem dX8_isAtSea_1 : decode cX8_isAtSea 1 = .ok (.getfield 13, 3) := by decide +kernel
theorem dX8_isAtSea_4 : decode cX8_isAtSea 4 = .ok (.bipush 15, 2) := by decide +kernel
theorem dX8_isAtSea_6 : decode cX8_isAtSea 6 = .ok (.iload_n 1, 1) := by decide +kernel
theorem dX8_isAtSea_7 : decode cX8_isAtSea 7 = .ok (.iadd, 1) := by decide +kernel
theorem dX8_isAtSea_8 : decode cX8_isAtSea 8 = .ok (.iaload, 1) := by decide +kernel
theorem dX8_isAtSea_9 : decode cX8_isAtSea 9 = .ok (.iconst (-1), 1) := by decide +kernel
theorem dX8_isAtSea_10 : decode cX8_isAtSea 10 = .ok (.if_icmp .eq 7, 3) := by decide +kernel
theorem dX8_isAtSea_13 : decode cX8_isAtSea 13 = .ok (.iconst 1, 1) := by decide +kernel
theorem dX8_isAtSea_14 : decode cX8_isAtSea 14 = .ok (.goto 4, 3) := by decide +kernel
theorem dX8_isAtSea_17 : decode cX8_isAtSea 17 = .ok (.iconst 0, 1) := by decide +kernel
theorem dX8_isAtSea_18 : decode cX8_isAtSea 18 = .ok (.ireturn, 1) := by decide +kernel
theorem dX8_doorOf_0 : decode cX8_doorOf 0 = .ok (.iconst (-1), 1) := by decide +kernel
theorem dX8_doorOf_1 : decode cX8_doorOf 1 = .ok (.istore_n 2, 1) := by decide +kernel
theorem dX8_doorOf_2 : decode cX8_doorOf 2 = .ok (.iconst 0, 1) := by decide +kernel
theorem dX8_doorOf_3 : decode cX8_doorOf 3 = .ok (.istore_n 3, 1) := by decide +kernel
theorem dX8_doorOf_4 : decode cX8_doorOf 4 = .ok (.iload_n 3, 1) := by decide +kernel
theorem dX8_doorOf_5 : decode cX8_doorOf 5 = .ok (.aload_n 0, 1) := by decide +kernel
theorem dX8_doorOf_6 : decode cX8_doorOf 6 = .ok (.getfield 13, 3) := by decide +kernel
theorem dX8_doorOf_9 : decode cX8_doorOf 9 = .ok (.iconst 1, 1) := by decide +kernel
theorem dX8_doorOf_10 : decode cX8_doorOf 10 = .ok (.iaload, 1) := by decide +kernel
theorem dX8_doorOf_11 : decode cX8_doorOf 11 = .ok (.if_icmp .ge 28, 3) := by decide +kernel
theorem dX8_doorOf_14 : decode cX8_doorOf 14 = .ok (.aload_n 0, 1) := by decide +kernel
theorem dX8_doorOf_15 : decode cX8_doorOf 15 = .ok (.getfield 13, 3) := by decide +kernel
theorem dX8_doorOf_18 : decode cX8_doorOf 18 = .ok (.bipush 7, 2) := by decide +kernel
theorem dX8_doorOf_20 : decode cX8_doorOf 20 = .ok (.iload_n 3, 1) := by decide +kernel
theorem dX8_doorOf_21 : decode cX8_doorOf 21 = .ok (.iadd, 1) := by decide +kernel
theorem dX8_doorOf_22 : decode cX8_doorOf 22 = .ok (.iaload, 1) := by decide +kernel
theorem dX8_doorOf_23 : decode cX8_doorOf 23 = .ok (.iload_n 1, 1) := by decide +kernel
theorem dX8_doorOf_24 : decode cX8_doorOf 24 = .ok (.if_icmp .ne 7, 3) := by decide +kernel
theorem dX8_doorOf_27 : decode cX8_doorOf 27 = .ok (.iload_n 3, 1) := by decide +kernel
theorem dX8_doorOf_28 : decode cX8_doorOf 28 = .ok (.goto 4, 3) := by decide +kernel
theorem dX8_doorOf_31 : decode cX8_doorOf 31 = .ok (.iload_n 2, 1) := by decide +kernel
theorem dX8_doorOf_32 : decode cX8_doorOf 32 = .ok (.istore_n 2, 1) := by decide +kernel
theorem dX8_doorOf_33 : decode cX8_doorOf 33 = .ok (.iinc 3 1, 3) := by decide +kernel
theorem dX8_doorOf_36 : decode cX8_doorOf 36 = .ok (.goto (-32), 3) := by decide +kernel
theorem dX8_doorOf_39 : decode cX8_doorOf 39 = .ok (.iload_n 2, 1) := by decide +kernel
theorem dX8_doorOf_40 : decode cX8_doorOf 40 = .ok (.ireturn, 1) := by decide +kernel
theorem dX8_cellBy_0 : decode cX8_cellBy 0 = .ok (.iload_n 1, 1) := by decide +kernel
theorem dX8_cellBy_1 : decode cX8_cellBy 1 = .ok (.tableswitch 87 1 4 #[31, 44, 59, 73], 31) := by decide +kernel
theorem dX8_cellBy_32 : decode cX8_cellBy 32 = .ok (.iload_n 0, 1) := by decide +kernel
theorem dX8_cellBy_33 : decode cX8_cellBy 33 = .ok (.iconst 5, 1) := by decide +kernel
theorem dX8_cellBy_34 : decode cX8_cellBy 34 = .ok (.if_icmp .ge 7, 3) := by decide +kernel
theorem dX8_cellBy_37 : decode cX8_cellBy 37 = .ok (.iconst (-1), 1) := by decide +kernel
theorem dX8_cellBy_38 : decode cX8_cellBy 38 = .ok (.goto 6, 3) := by decide +kernel
theorem dX8_cellBy_41 : decode cX8_cellBy 41 = .ok (.iload_n 0, 1) := by decide +kernel
theorem dX8_cellBy_42 : decode cX8_cellBy 42 = .ok (.iconst 5, 1) := by decide +kernel
theorem dX8_cellBy_43 : decode cX8_cellBy 43 = .ok (.isub, 1) := by decide +kernel
theorem dX8_cellBy_44 : decode cX8_cellBy 44 = .ok (.ireturn, 1) := by decide +kernel
theorem dX8_cellBy_45 : decode cX8_cellBy 45 = .ok (.iload_n 0, 1) := by decide +kernel
theorem dX8_cellBy_46 : decode cX8_cellBy 46 = .ok (.iconst 5, 1) := by decide +kernel
theorem dX8_cellBy_47 : decode cX8_cellBy 47 = .ok (.irem, 1) := by decide +kernel
theorem dX8_cellBy_48 : decode cX8_cellBy 48 = .ok (.iconst 4, 1) := by decide +kernel
theorem dX8_cellBy_49 : decode cX8_cellBy 49 = .ok (.if_icmp .ne 7, 3) := by decide +kernel
theorem dX8_cellBy_52 : decode cX8_cellBy 52 = .ok (.iconst (-1), 1) := by decide +kernel
theorem dX8_cellBy_53 : decode cX8_cellBy 53 = .ok (.goto 6, 3) := by decide +kernel
theorem dX8_cellBy_56 : decode cX8_cellBy 56 = .ok (.iload_n 0, 1) := by decide +kernel
theorem dX8_cellBy_57 : decode cX8_cellBy 57 = .ok (.iconst 1, 1) := by decide +kernel
theorem dX8_cellBy_58 : decode cX8_cellBy 58 = .ok (.iadd, 1) := by decide +kernel
theorem dX8_cellBy_59 : decode cX8_cellBy 59 = .ok (.ireturn, 1) := by decide +kernel
theorem dX8_cellBy_60 : decode cX8_cellBy 60 = .ok (.iload_n 0, 1) := by decide +kernel
theorem dX8_cellBy_61 : decode cX8_cellBy 61 = .ok (.bipush 19, 2) := by decide +kernel
theorem dX8_cellBy_63 : decode cX8_cellBy 63 = .ok (.if_icmp .le 7, 3) := by decide +kernel
theorem dX8_cellBy_66 : decode cX8_cellBy 66 = .ok (.iconst (-1), 1) := by decide +kernel
theorem dX8_cellBy_67 : decode cX8_cellBy 67 = .ok (.goto 6, 3) := by decide +kernel
theorem dX8_cellBy_70 : decode cX8_cellBy 70 = .ok (.iload_n 0, 1) := by decide +kernel
theorem dX8_cellBy_71 : decode cX8_cellBy 71 = .ok (.iconst 5, 1) := by decide +kernel
theorem dX8_cellBy_72 : decode cX8_cellBy 72 = .ok (.iadd, 1) := by decide +kernel
theorem dX8_cellBy_73 : decode cX8_cellBy 73 = .ok (.ireturn, 1) := by decide +kernel
theorem dX8_cellBy_74 : decode cX8_cellBy 74 = .ok (.iload_n 0, 1) := by decide +kernel
theorem dX8_cellBy_75 : decode cX8_cellBy 75 = .ok (.iconst 5, 1) := by decide +kernel
theorem dX8_cellBy_76 : decode cX8_cellBy 76 = .ok (.irem, 1) := by decide +kernel
theorem dX8_cellBy_77 : decode cX8_cellBy 77 = .ok (.ifCond .ne 7, 3) := by decide +kernel
theorem dX8_cellBy_80 : decode cX8_cellBy 80 = .ok (.iconst (-1), 1) := by decide +kernel
theorem dX8_cellBy_81 : decode cX8_cellBy 81 = .ok (.goto 6, 3) := by decide +kernel
theorem dX8_cellBy_84 : decode cX8_cellBy 84 = .ok (.iload_n 0, 1) := by decide +kernel
theorem dX8_cellBy_85 : decode cX8_cellBy 85 = .ok (.iconst 1, 1) := by decide +kernel
theorem dX8_cellBy_86 : decode cX8_cellBy 86 = .ok (.isub, 1) := by decide +kernel
theorem dX8_cellBy_87 : decode cX8_cellBy 87 = .ok (.ireturn, 1) := by decide +kernel
theorem dX8_cellBy_88 : decode cX8_cellBy 88 = .ok (.iload_n 0, 1) := by decide +kernel
theorem dX8_cellBy_89 : decode cX8_cellBy 89 = .ok (.ireturn, 1) := by decide +kernel
theorem dX8_house_0 : decode cX8_house 0 = .ok (.aload_n 0, 1) := by decide +kernel
theorem dX8_house_1 : decode cX8_house 1 = .ok (.iconst 0, 1) := by decide +kernel
theorem dX8_house_2 : decode cX8_house 2 = .ok (.putfield 161, 3) := by decide +kernel
theorem dX8_house_5 : decode cX8_house 5 = .ok (.iload_n 1, 1) := by decide +kernel
theorem dX8_house_6 : decode cX8_house 6 = .ok (.i2l, 1) := by decide +kernel
theorem dX8_house_7 : decode cX8_house 7 = .ok (.lconst 1, 1) := by decide +kernel
theorem dX8_house_8 : decode cX8_house 8 = .ok (.ldc2_w 190, 3) := by decide +kernel
theorem dX8_house_11 : decode cX8_house 11 = .ok (.invokestatic 181, 3) := by decide +kernel
theorem dX8_house_14 : decode cX8_house 14 = .ok (.ifCond .ne 9, 3) := by decide +kernel
theorem dX8_house_17 : decode cX8_house 17 = .ok (.aload_n 0, 1) := by decide +kernel
theorem dX8_house_18 : decode cX8_house 18 = .ok (.iconst (-1), 1) := by decide +kernel
theorem dX8_house_19 : decode cX8_house 19 = .ok (.invokevirtual 170, 3) := by decide +kernel
theorem dX8_house_22 : decode cX8_house 22 = .ok (.ireturn, 1) := by decide +kernel
theorem dX8_house_23 : decode cX8_house 23 = .ok (.aload_n 0, 1) := by decide +kernel
theorem dX8_house_24 : decode cX8_house 24 = .ok (.getfield 13, 3) := by decide +kernel
theorem dX8_house_27 : decode cX8_house 27 = .ok (.iconst 0, 1) := by decide +kernel
theorem dX8_house_28 : decode cX8_house 28 = .ok (.iaload, 1) := by decide +kernel
theorem dX8_house_29 : decode cX8_house 29 = .ok (.istore_n 2, 1) := by decide +kernel
theorem dX8_house_30 : decode cX8_house 30 = .ok (.iload_n 2, 1) := by decide +kernel
theorem dX8_house_31 : decode cX8_house 31 = .ok (.bipush 8, 2) := by decide +kernel
theorem dX8_house_33 : decode cX8_house 33 = .ok (.if_icmp .ne 10, 3) := by decide +kernel
theorem dX8_house_36 : decode cX8_house 36 = .ok (.aload_n 0, 1) := by decide +kernel
theorem dX8_house_37 : decode cX8_house 37 = .ok (.bipush (-5), 2) := by decide +kernel
theorem dX8_house_39 : decode cX8_house 39 = .ok (.invokevirtual 170, 3) := by decide +kernel
theorem dX8_house_42 : decode cX8_house 42 = .ok (.ireturn, 1) := by decide +kernel
theorem dX8_house_43 : decode cX8_house 43 = .ok (.aload_n 0, 1) := by decide +kernel
theorem dX8_house_44 : decode cX8_house 44 = .ok (.getfield 13, 3) := by decide +kernel
theorem dX8_house_47 : decode cX8_house 47 = .ok (.bipush 64, 2) := by decide +kernel
theorem dX8_house_49 : decode cX8_house 49 = .ok (.iload_n 2, 1) := by decide +kernel
theorem dX8_house_50 : decode cX8_house 50 = .ok (.iadd, 1) := by decide +kernel
theorem dX8_house_51 : decode cX8_house 51 = .ok (.iload_n 1, 1) := by decide +kernel
theorem dX8_house_52 : decode cX8_house 52 = .ok (.iastore, 1) := by decide +kernel
theorem dX8_house_53 : decode cX8_house 53 = .ok (.aload_n 0, 1) := by decide +kernel
theorem dX8_house_54 : decode cX8_house 54 = .ok (.getfield 13, 3) := by decide +kernel
theorem dX8_house_57 : decode cX8_house 57 = .ok (.iconst 0, 1) := by decide +kernel
theorem dX8_house_58 : decode cX8_house 58 = .ok (.dup2, 1) := by decide +kernel
theorem dX8_house_59 : decode cX8_house 59 = .ok (.iaload, 1) := by decide +kernel
theorem dX8_house_60 : decode cX8_house 60 = .ok (.iconst 1, 1) := by decide +kernel
theorem dX8_house_61 : decode cX8_house 61 = .ok (.iadd, 1) := by decide +kernel
theorem dX8_house_62 : decode cX8_house 62 = .ok (.iastore, 1) := by decide +kernel
theorem dX8_house_63 : decode cX8_house 63 = .ok (.aload_n 0, 1) := by decide +kernel
theorem dX8_house_64 : decode cX8_house 64 = .ok (.iload_n 2, 1) := by decide +kernel
theorem dX8_house_65 : decode cX8_house 65 = .ok (.invokevirtual 170, 3) := by decide +kernel
theorem dX8_house_68 : decode cX8_house 68 = .ok (.ireturn, 1) := by decide +kernel
theorem dX8_door_0 : decode cX8_door 0 = .ok (.aload_n 0, 1) := by decide +kernel
theorem dX8_door_1 : decode cX8_door 1 = .ok (.iconst 0, 1) := by decide +kernel
theorem dX8_door_2 : decode cX8_door 2 = .ok (.putfield 161, 3) := by decide +kernel
theorem dX8_door_5 : decode cX8_door 5 = .ok (.iload_n 1, 1) := by decide +kernel
theorem dX8_door_6 : decode cX8_door 6 = .ok (.i2l, 1) := by decide +kernel
theorem dX8_door_7 : decode cX8_door 7 = .ok (.lconst 1, 1) := by decide +kernel
theorem dX8_door_8 : decode cX8_door 8 = .ok (.ldc2_w 190, 3) := by decide +kernel
theorem dX8_door_11 : decode cX8_door 11 = .ok (.invokestatic 181, 3) := by decide +kernel
theorem dX8_door_14 : decode cX8_door 14 = .ok (.ifCond .eq 28, 3) := by decide +kernel
theorem dX8_door_17 : decode cX8_door 17 = .ok (.iload_n 2, 1) := by decide +kernel
theorem dX8_door_18 : decode cX8_door 18 = .ok (.i2l, 1) := by decide +kernel
theorem dX8_door_19 : decode cX8_door 19 = .ok (.lconst 0, 1) := by decide +kernel
theorem dX8_door_20 : decode cX8_door 20 = .ok (.ldc2_w 192, 3) := by decide +kernel
theorem dX8_door_23 : decode cX8_door 23 = .ok (.invokestatic 181, 3) := by decide +kernel
theorem dX8_door_26 : decode cX8_door 26 = .ok (.ifCond .eq 16, 3) := by decide +kernel
theorem dX8_door_29 : decode cX8_door 29 = .ok (.iload 4, 2) := by decide +kernel
theorem dX8_door_31 : decode cX8_door 31 = .ok (.i2l, 1) := by decide +kernel
theorem dX8_door_32 : decode cX8_door 32 = .ok (.lconst 0, 1) := by decide +kernel
theorem dX8_door_33 : decode cX8_door 33 = .ok (.ldc2_w 194, 3) := by decide +kernel
theorem dX8_door_36 : decode cX8_door 36 = .ok (.invokestatic 181, 3) := by decide +kernel
theorem dX8_door_39 : decode cX8_door 39 = .ok (.ifCond .ne 9, 3) := by decide +kernel
theorem dX8_door_42 : decode cX8_door 42 = .ok (.aload_n 0, 1) := by decide +kernel
theorem dX8_door_43 : decode cX8_door 43 = .ok (.iconst (-1), 1) := by decide +kernel
theorem dX8_door_44 : decode cX8_door 44 = .ok (.invokevirtual 170, 3) := by decide +kernel
theorem dX8_door_47 : decode cX8_door 47 = .ok (.ireturn, 1) := by decide +kernel
theorem dX8_door_48 : decode cX8_door 48 = .ok (.aload_n 0, 1) := by decide +kernel
theorem dX8_door_49 : decode cX8_door 49 = .ok (.iload_n 3, 1) := by decide +kernel
theorem dX8_door_50 : decode cX8_door 50 = .ok (.invokevirtual 196, 3) := by decide +kernel
theorem dX8_door_53 : decode cX8_door 53 = .ok (.ifCond .ne 10, 3) := by decide +kernel
theorem dX8_door_56 : decode cX8_door 56 = .ok (.aload_n 0, 1) := by decide +kernel
theorem dX8_door_57 : decode cX8_door 57 = .ok (.bipush (-2), 2) := by decide +kernel
theorem dX8_door_59 : decode cX8_door 59 = .ok (.invokevirtual 170, 3) := by decide +kernel
theorem dX8_door_62 : decode cX8_door 62 = .ok (.ireturn, 1) := by decide +kernel
theorem dX8_door_63 : decode cX8_door 63 = .ok (.aload_n 0, 1) := by decide +kernel
theorem dX8_door_64 : decode cX8_door 64 = .ok (.iload_n 3, 1) := by decide +kernel
theorem dX8_door_65 : decode cX8_door 65 = .ok (.invokevirtual 200, 3) := by decide +kernel
theorem dX8_door_68 : decode cX8_door 68 = .ok (.iconst (-1), 1) := by decide +kernel
theorem dX8_door_69 : decode cX8_door 69 = .ok (.if_icmp .eq 10, 3) := by decide +kernel
theorem dX8_door_72 : decode cX8_door 72 = .ok (.aload_n 0, 1) := by decide +kernel
theorem dX8_door_73 : decode cX8_door 73 = .ok (.bipush (-3), 2) := by decide +kernel
theorem dX8_door_75 : decode cX8_door 75 = .ok (.invokevirtual 170, 3) := by decide +kernel
theorem dX8_door_78 : decode cX8_door 78 = .ok (.ireturn, 1) := by decide +kernel
theorem dX8_door_79 : decode cX8_door 79 = .ok (.aload_n 0, 1) := by decide +kernel
theorem dX8_door_80 : decode cX8_door 80 = .ok (.getfield 13, 3) := by decide +kernel
theorem dX8_door_83 : decode cX8_door 83 = .ok (.iconst 1, 1) := by decide +kernel
theorem dX8_door_84 : decode cX8_door 84 = .ok (.iaload, 1) := by decide +kernel
theorem dX8_door_85 : decode cX8_door 85 = .ok (.istore 5, 2) := by decide +kernel
theorem dX8_door_87 : decode cX8_door 87 = .ok (.iload 5, 2) := by decide +kernel
theorem dX8_door_89 : decode cX8_door 89 = .ok (.bipush 8, 2) := by decide +kernel
theorem dX8_door_91 : decode cX8_door 91 = .ok (.if_icmp .ne 10, 3) := by decide +kernel
theorem dX8_door_94 : decode cX8_door 94 = .ok (.aload_n 0, 1) := by decide +kernel
theorem dX8_door_95 : decode cX8_door 95 = .ok (.bipush (-5), 2) := by decide +kernel
theorem dX8_door_97 : decode cX8_door 97 = .ok (.invokevirtual 170, 3) := by decide +kernel
theorem dX8_door_100 : decode cX8_door 100 = .ok (.ireturn, 1) := by decide +kernel
theorem dX8_door_101 : decode cX8_door 101 = .ok (.aload_n 0, 1) := by decide +kernel
theorem dX8_door_102 : decode cX8_door 102 = .ok (.getfield 13, 3) := by decide +kernel
theorem dX8_door_105 : decode cX8_door 105 = .ok (.bipush 72, 2) := by decide +kernel
theorem dX8_door_107 : decode cX8_door 107 = .ok (.iload 5, 2) := by decide +kernel
theorem dX8_door_109 : decode cX8_door 109 = .ok (.iadd, 1) := by decide +kernel
theorem dX8_door_110 : decode cX8_door 110 = .ok (.iload_n 1, 1) := by decide +kernel
theorem dX8_door_111 : decode cX8_door 111 = .ok (.iastore, 1) := by decide +kernel
theorem dX8_door_112 : decode cX8_door 112 = .ok (.aload_n 0, 1) := by decide +kernel
theorem dX8_door_113 : decode cX8_door 113 = .ok (.getfield 13, 3) := by decide +kernel
theorem dX8_door_116 : decode cX8_door 116 = .ok (.bipush 80, 2) := by decide +kernel
theorem dX8_door_118 : decode cX8_door 118 = .ok (.iload 5, 2) := by decide +kernel
theorem dX8_door_120 : decode cX8_door 120 = .ok (.iadd, 1) := by decide +kernel
theorem dX8_door_121 : decode cX8_door 121 = .ok (.iload_n 2, 1) := by decide +kernel
theorem dX8_door_122 : decode cX8_door 122 = .ok (.iastore, 1) := by decide +kernel
theorem dX8_door_123 : decode cX8_door 123 = .ok (.aload_n 0, 1) := by decide +kernel
theorem dX8_door_124 : decode cX8_door 124 = .ok (.getfield 13, 3) := by decide +kernel
theorem dX8_door_127 : decode cX8_door 127 = .ok (.bipush 88, 2) := by decide +kernel
theorem dX8_door_129 : decode cX8_door 129 = .ok (.iload 5, 2) := by decide +kernel
theorem dX8_door_131 : decode cX8_door 131 = .ok (.iadd, 1) := by decide +kernel
theorem dX8_door_132 : decode cX8_door 132 = .ok (.iload_n 3, 1) := by decide +kernel
theorem dX8_door_133 : decode cX8_door 133 = .ok (.iastore, 1) := by decide +kernel
theorem dX8_door_134 : decode cX8_door 134 = .ok (.aload_n 0, 1) := by decide +kernel
theorem dX8_door_135 : decode cX8_door 135 = .ok (.getfield 13, 3) := by decide +kernel
theorem dX8_door_138 : decode cX8_door 138 = .ok (.bipush 96, 2) := by decide +kernel
theorem dX8_door_140 : decode cX8_door 140 = .ok (.iload 5, 2) := by decide +kernel
theorem dX8_door_142 : decode cX8_door 142 = .ok (.iadd, 1) := by decide +kernel
theorem dX8_door_143 : decode cX8_door 143 = .ok (.iload 4, 2) := by decide +kernel
theorem dX8_door_145 : decode cX8_door 145 = .ok (.iastore, 1) := by decide +kernel
theorem dX8_door_146 : decode cX8_door 146 = .ok (.aload_n 0, 1) := by decide +kernel
theorem dX8_door_147 : decode cX8_door 147 = .ok (.getfield 13, 3) := by decide +kernel
theorem dX8_door_150 : decode cX8_door 150 = .ok (.bipush 7, 2) := by decide +kernel
theorem dX8_door_152 : decode cX8_door 152 = .ok (.iload 5, 2) := by decide +kernel
theorem dX8_door_154 : decode cX8_door 154 = .ok (.iadd, 1) := by decide +kernel
theorem dX8_door_155 : decode cX8_door 155 = .ok (.iload_n 3, 1) := by decide +kernel
theorem dX8_door_156 : decode cX8_door 156 = .ok (.iastore, 1) := by decide +kernel
theorem dX8_door_157 : decode cX8_door 157 = .ok (.aload_n 0, 1) := by decide +kernel
theorem dX8_door_158 : decode cX8_door 158 = .ok (.getfield 13, 3) := by decide +kernel
theorem dX8_door_161 : decode cX8_door 161 = .ok (.bipush 15, 2) := by decide +kernel
theorem dX8_door_163 : decode cX8_door 163 = .ok (.iload 5, 2) := by decide +kernel
theorem dX8_door_165 : decode cX8_door 165 = .ok (.iadd, 1) := by decide +kernel
theorem dX8_door_166 : decode cX8_door 166 = .ok (.iconst (-1), 1) := by decide +kernel
theorem dX8_door_167 : decode cX8_door 167 = .ok (.iastore, 1) := by decide +kernel
theorem dX8_door_168 : decode cX8_door 168 = .ok (.aload_n 0, 1) := by decide +kernel
theorem dX8_door_169 : decode cX8_door 169 = .ok (.getfield 13, 3) := by decide +kernel
theorem dX8_door_172 : decode cX8_door 172 = .ok (.bipush 23, 2) := by decide +kernel
theorem dX8_door_174 : decode cX8_door 174 = .ok (.iload 5, 2) := by decide +kernel
theorem dX8_door_176 : decode cX8_door 176 = .ok (.iadd, 1) := by decide +kernel
theorem dX8_door_177 : decode cX8_door 177 = .ok (.iconst 0, 1) := by decide +kernel
theorem dX8_door_178 : decode cX8_door 178 = .ok (.iastore, 1) := by decide +kernel
theorem dX8_door_179 : decode cX8_door 179 = .ok (.aload_n 0, 1) := by decide +kernel
theorem dX8_door_180 : decode cX8_door 180 = .ok (.getfield 13, 3) := by decide +kernel
theorem dX8_door_183 : decode cX8_door 183 = .ok (.bipush 31, 2) := by decide +kernel
theorem dX8_door_185 : decode cX8_door 185 = .ok (.iload 5, 2) := by decide +kernel
theorem dX8_door_187 : decode cX8_door 187 = .ok (.iadd, 1) := by decide +kernel
theorem dX8_door_188 : decode cX8_door 188 = .ok (.iconst 0, 1) := by decide +kernel
theorem dX8_door_189 : decode cX8_door 189 = .ok (.iastore, 1) := by decide +kernel
theorem dX8_door_190 : decode cX8_door 190 = .ok (.aload_n 0, 1) := by decide +kernel
theorem dX8_door_191 : decode cX8_door 191 = .ok (.getfield 13, 3) := by decide +kernel
theorem dX8_door_194 : decode cX8_door 194 = .ok (.iconst 1, 1) := by decide +kernel
theorem dX8_door_195 : decode cX8_door 195 = .ok (.dup2, 1) := by decide +kernel
theorem dX8_door_196 : decode cX8_door 196 = .ok (.iaload, 1) := by decide +kernel
theorem dX8_door_197 : decode cX8_door 197 = .ok (.iconst 1, 1) := by decide +kernel
theorem dX8_door_198 : decode cX8_door 198 = .ok (.iadd, 1) := by decide +kernel
theorem dX8_door_199 : decode cX8_door 199 = .ok (.iastore, 1) := by decide +kernel
theorem dX8_door_200 : decode cX8_door 200 = .ok (.aload_n 0, 1) := by decide +kernel
theorem dX8_door_201 : decode cX8_door 201 = .ok (.iload 5, 2) := by decide +kernel
theorem dX8_door_203 : decode cX8_door 203 = .ok (.invokevirtual 185, 3) := by decide +kernel
theorem dX8_door_206 : decode cX8_door 206 = .ok (.ireturn, 1) := by decide +kernel
theorem dX8_of_0 : decode cX8_of 0 = .ok (.aload_n 0, 1) := by decide +kernel
theorem dX8_of_1 : decode cX8_of 1 = .ok (.iconst 0, 1) := by decide +kernel
theorem dX8_of_2 : decode cX8_of 2 = .ok (.putfield 161, 3) := by decide +kernel
theorem dX8_of_5 : decode cX8_of 5 = .ok (.aload_n 0, 1) := by decide +kernel
theorem dX8_of_6 : decode cX8_of 6 = .ok (.iload_n 1, 1) := by decide +kernel
theorem dX8_of_7 : decode cX8_of 7 = .ok (.invokevirtual 203, 3) := by decide +kernel
theorem dX8_of_10 : decode cX8_of 10 = .ok (.ifCond .ne 5, 3) := by decide +kernel
theorem dX8_of_13 : decode cX8_of 13 = .ok (.iconst (-1), 1) := by decide +kernel
theorem dX8_of_14 : decode cX8_of 14 = .ok (.ireturn, 1) := by decide +kernel
theorem dX8_of_15 : decode cX8_of 15 = .ok (.iload_n 2, 1) := by decide +kernel
theorem dX8_of_16 : decode cX8_of 16 = .ok (.tableswitch 159 0 8 #[52, 62, 72, 82, 92, 102, 112, 122, 132], 52) := by decide +kernel
theorem dX8_of_68 : decode cX8_of 68 = .ok (.aload_n 0, 1) := by decide +kernel
theorem dX8_of_69 : decode cX8_of 69 = .ok (.getfield 13, 3) := by decide +kernel
theorem dX8_of_72 : decode cX8_of 72 = .ok (.bipush 72, 2) := by decide +kernel
theorem dX8_of_74 : decode cX8_of 74 = .ok (.iload_n 1, 1) := by decide +kernel
theorem dX8_of_75 : decode cX8_of 75 = .ok (.iadd, 1) := by decide +kernel
theorem dX8_of_76 : decode cX8_of 76 = .ok (.iaload, 1) := by decide +kernel
theorem dX8_of_77 : decode cX8_of 77 = .ok (.ireturn, 1) := by decide +kernel
theorem dX8_of_78 : decode cX8_of 78 = .ok (.aload_n 0, 1) := by decide +kernel
theorem dX8_of_79 : decode cX8_of 79 = .ok (.getfield 13, 3) := by decide +kernel
theorem dX8_of_82 : decode cX8_of 82 = .ok (.bipush 80, 2) := by decide +kernel
theorem dX8_of_84 : decode cX8_of 84 = .ok (.iload_n 1, 1) := by decide +kernel
theorem dX8_of_85 : decode cX8_of 85 = .ok (.iadd, 1) := by decide +kernel
theorem dX8_of_86 : decode cX8_of 86 = .ok (.iaload, 1) := by decide +kernel
theorem dX8_of_87 : decode cX8_of 87 = .ok (.ireturn, 1) := by decide +kernel
theorem dX8_of_88 : decode cX8_of 88 = .ok (.aload_n 0, 1) := by decide +kernel
theorem dX8_of_89 : decode cX8_of 89 = .ok (.getfield 13, 3) := by decide +kernel
theorem dX8_of_92 : decode cX8_of 92 = .ok (.bipush 88, 2) := by decide +kernel
theorem dX8_of_94 : decode cX8_of 94 = .ok (.iload_n 1, 1) := by decide +kernel
theorem dX8_of_95 : decode cX8_of 95 = .ok (.iadd, 1) := by decide +kernel
theorem dX8_of_96 : decode cX8_of 96 = .ok (.iaload, 1) := by decide +kernel
theorem dX8_of_97 : decode cX8_of 97 = .ok (.ireturn, 1) := by decide +kernel
theorem dX8_of_98 : decode cX8_of 98 = .ok (.aload_n 0, 1) := by decide +kernel
theorem dX8_of_99 : decode cX8_of 99 = .ok (.getfield 13, 3) := by decide +kernel
theorem dX8_of_102 : decode cX8_of 102 = .ok (.bipush 96, 2) := by decide +kernel
theorem dX8_of_104 : decode cX8_of 104 = .ok (.iload_n 1, 1) := by decide +kernel
theorem dX8_of_105 : decode cX8_of 105 = .ok (.iadd, 1) := by decide +kernel
theorem dX8_of_106 : decode cX8_of 106 = .ok (.iaload, 1) := by decide +kernel
theorem dX8_of_107 : decode cX8_of 107 = .ok (.ireturn, 1) := by decide +kernel
theorem dX8_of_108 : decode cX8_of 108 = .ok (.aload_n 0, 1) := by decide +kernel
theorem dX8_of_109 : decode cX8_of 109 = .ok (.getfield 13, 3) := by decide +kernel
theorem dX8_of_112 : decode cX8_of 112 = .ok (.bipush 7, 2) := by decide +kernel
theorem dX8_of_114 : decode cX8_of 114 = .ok (.iload_n 1, 1) := by decide +kernel
theorem dX8_of_115 : decode cX8_of 115 = .ok (.iadd, 1) := by decide +kernel
theorem dX8_of_116 : decode cX8_of 116 = .ok (.iaload, 1) := by decide +kernel
theorem dX8_of_117 : decode cX8_of 117 = .ok (.ireturn, 1) := by decide +kernel
theorem dX8_of_118 : decode cX8_of 118 = .ok (.aload_n 0, 1) := by decide +kernel
theorem dX8_of_119 : decode cX8_of 119 = .ok (.getfield 13, 3) := by decide +kernel
theorem dX8_of_122 : decode cX8_of 122 = .ok (.bipush 15, 2) := by decide +kernel
theorem dX8_of_124 : decode cX8_of 124 = .ok (.iload_n 1, 1) := by decide +kernel
theorem dX8_of_125 : decode cX8_of 125 = .ok (.iadd, 1) := by decide +kernel
theorem dX8_of_126 : decode cX8_of 126 = .ok (.iaload, 1) := by decide +kernel
theorem dX8_of_127 : decode cX8_of 127 = .ok (.ireturn, 1) := by decide +kernel
theorem dX8_of_128 : decode cX8_of 128 = .ok (.aload_n 0, 1) := by decide +kernel
theorem dX8_of_129 : decode cX8_of 129 = .ok (.getfield 13, 3) := by decide +kernel
theorem dX8_of_132 : decode cX8_of 132 = .ok (.bipush 23, 2) := by decide +kernel
theorem dX8_of_134 : decode cX8_of 134 = .ok (.iload_n 1, 1) := by decide +kernel
theorem dX8_of_135 : decode cX8_of 135 = .ok (.iadd, 1) := by decide +kernel
theorem dX8_of_136 : decode cX8_of 136 = .ok (.iaload, 1) := by decide +kernel
theorem dX8_of_137 : decode cX8_of 137 = .ok (.ireturn, 1) := by decide +kernel
theorem dX8_of_138 : decode cX8_of 138 = .ok (.aload_n 0, 1) := by decide +kernel
theorem dX8_of_139 : decode cX8_of 139 = .ok (.getfield 13, 3) := by decide +kernel
theorem dX8_of_142 : decode cX8_of 142 = .ok (.bipush 31, 2) := by decide +kernel
theorem dX8_of_144 : decode cX8_of 144 = .ok (.iload_n 1, 1) := by decide +kernel
theorem dX8_of_145 : decode cX8_of 145 = .ok (.iadd, 1) := by decide +kernel
theorem dX8_of_146 : decode cX8_of 146 = .ok (.iaload, 1) := by decide +kernel
theorem dX8_of_147 : decode cX8_of 147 = .ok (.ireturn, 1) := by decide +kernel
theorem dX8_of_148 : decode cX8_of 148 = .ok (.aload_n 0, 1) := by decide +kernel
theorem dX8_of_149 : decode cX8_of 149 = .ok (.getfield 13, 3) := by decide +kernel
theorem dX8_of_152 : decode cX8_of 152 = .ok (.bipush 7, 2) := by decide +kernel
theorem dX8_of_154 : decode cX8_of 154 = .ok (.iload_n 1, 1) := by decide +kernel
theorem dX8_of_155 : decode cX8_of 155 = .ok (.iadd, 1) := by decide +kernel
theorem dX8_of_156 : decode cX8_of 156 = .ok (.iaload, 1) := by decide +kernel
theorem dX8_of_157 : decode cX8_of 157 = .ok (.iconst (-1), 1) := by decide +kernel
theorem dX8_of_158 : decode cX8_of 158 = .ok (.if_icmp .eq 15, 3) := by decide +kernel
theorem dX8_of_161 : decode cX8_of 161 = .ok (.aload_n 0, 1) := by decide +kernel
theorem dX8_of_162 : decode cX8_of 162 = .ok (.iload_n 1, 1) := by decide +kernel
theorem dX8_of_163 : decode cX8_of 163 = .ok (.invokevirtual 206, 3) := by decide +kernel
theorem dX8_of_166 : decode cX8_of 166 = .ok (.ifCond .eq 7, 3) := by decide +kernel
theorem dX8_of_169 : decode cX8_of 169 = .ok (.iconst 1, 1) := by decide +kernel
theorem dX8_of_170 : decode cX8_of 170 = .ok (.goto 4, 3) := by decide +kernel
theorem dX8_of_173 : decode cX8_of 173 = .ok (.iconst 0, 1) := by decide +kernel
theorem dX8_of_174 : decode cX8_of 174 = .ok (.ireturn, 1) := by decide +kernel
theorem dX8_of_175 : decode cX8_of 175 = .ok (.iconst (-1), 1) := by decide +kernel
theorem dX8_of_176 : decode cX8_of 176 = .ok (.ireturn, 1) := by decide +kernel
theorem dX8_frame_0 : decode cX8_frame 0 = .ok (.aload_n 0, 1) := by decide +kernel
theorem dX8_frame_1 : decode cX8_frame 1 = .ok (.iconst 0, 1) := by decide +kernel
theorem dX8_frame_2 : decode cX8_frame 2 = .ok (.putfield 161, 3) := by decide +kernel
theorem dX8_frame_5 : decode cX8_frame 5 = .ok (.aload_n 0, 1) := by decide +kernel
theorem dX8_frame_6 : decode cX8_frame 6 = .ok (.iload_n 1, 1) := by decide +kernel
theorem dX8_frame_7 : decode cX8_frame 7 = .ok (.invokevirtual 196, 3) := by decide +kernel
theorem dX8_frame_10 : decode cX8_frame 10 = .ok (.ifCond .eq 21, 3) := by decide +kernel
theorem dX8_frame_13 : decode cX8_frame 13 = .ok (.iload_n 2, 1) := by decide +kernel
theorem dX8_frame_14 : decode cX8_frame 14 = .ok (.i2l, 1) := by decide +kernel
theorem dX8_frame_15 : decode cX8_frame 15 = .ok (.lconst 0, 1) := by decide +kernel
theorem dX8_frame_16 : decode cX8_frame 16 = .ok (.lconst 1, 1) := by decide +kernel
theorem dX8_frame_17 : decode cX8_frame 17 = .ok (.aload_n 0, 1) := by decide +kernel
theorem dX8_frame_18 : decode cX8_frame 18 = .ok (.getfield 13, 3) := by decide +kernel
theorem dX8_frame_21 : decode cX8_frame 21 = .ok (.iconst 1, 1) := by decide +kernel
theorem dX8_frame_22 : decode cX8_frame 22 = .ok (.iaload, 1) := by decide +kernel
theorem dX8_frame_23 : decode cX8_frame 23 = .ok (.i2l, 1) := by decide +kernel
theorem dX8_frame_24 : decode cX8_frame 24 = .ok (.ladd, 1) := by decide +kernel
theorem dX8_frame_25 : decode cX8_frame 25 = .ok (.invokestatic 181, 3) := by decide +kernel
theorem dX8_frame_28 : decode cX8_frame 28 = .ok (.ifCond .ne 5, 3) := by decide +kernel
theorem dX8_frame_31 : decode cX8_frame 31 = .ok (.iconst (-1), 1) := by decide +kernel
theorem dX8_frame_32 : decode cX8_frame 32 = .ok (.ireturn, 1) := by decide +kernel
theorem dX8_frame_33 : decode cX8_frame 33 = .ok (.iload_n 2, 1) := by decide +kernel
theorem dX8_frame_34 : decode cX8_frame 34 = .ok (.ifCond .ne 15, 3) := by decide +kernel
theorem dX8_frame_37 : decode cX8_frame 37 = .ok (.aload_n 0, 1) := by decide +kernel
theorem dX8_frame_38 : decode cX8_frame 38 = .ok (.getfield 13, 3) := by decide +kernel
theorem dX8_frame_41 : decode cX8_frame 41 = .ok (.bipush 64, 2) := by decide +kernel
theorem dX8_frame_43 : decode cX8_frame 43 = .ok (.iload_n 1, 1) := by decide +kernel
theorem dX8_frame_44 : decode cX8_frame 44 = .ok (.iadd, 1) := by decide +kernel
theorem dX8_frame_45 : decode cX8_frame 45 = .ok (.iaload, 1) := by decide +kernel
theorem dX8_frame_46 : decode cX8_frame 46 = .ok (.goto 32, 3) := by decide +kernel
theorem dX8_frame_49 : decode cX8_frame 49 = .ok (.iload_n 2, 1) := by decide +kernel
theorem dX8_frame_50 : decode cX8_frame 50 = .ok (.iconst 1, 1) := by decide +kernel
theorem dX8_frame_51 : decode cX8_frame 51 = .ok (.if_icmp .ne 11, 3) := by decide +kernel
theorem dX8_frame_54 : decode cX8_frame 54 = .ok (.aload_n 0, 1) := by decide +kernel
theorem dX8_frame_55 : decode cX8_frame 55 = .ok (.iload_n 1, 1) := by decide +kernel
theorem dX8_frame_56 : decode cX8_frame 56 = .ok (.invokevirtual 200, 3) := by decide +kernel
theorem dX8_frame_59 : decode cX8_frame 59 = .ok (.goto 19, 3) := by decide +kernel
theorem dX8_frame_62 : decode cX8_frame 62 = .ok (.aload_n 0, 1) := by decide +kernel
theorem dX8_frame_63 : decode cX8_frame 63 = .ok (.iload_n 2, 1) := by decide +kernel
theorem dX8_frame_64 : decode cX8_frame 64 = .ok (.iconst 2, 1) := by decide +kernel
theorem dX8_frame_65 : decode cX8_frame 65 = .ok (.isub, 1) := by decide +kernel
theorem dX8_frame_66 : decode cX8_frame 66 = .ok (.iload_n 1, 1) := by decide +kernel
theorem dX8_frame_67 : decode cX8_frame 67 = .ok (.invokevirtual 209, 3) := by decide +kernel
theorem dX8_frame_70 : decode cX8_frame 70 = .ok (.ifCond .eq 7, 3) := by decide +kernel
theorem dX8_frame_73 : decode cX8_frame 73 = .ok (.iconst 1, 1) := by decide +kernel
theorem dX8_frame_74 : decode cX8_frame 74 = .ok (.goto 4, 3) := by decide +kernel
theorem dX8_frame_77 : decode cX8_frame 77 = .ok (.iconst 0, 1) := by decide +kernel
theorem dX8_frame_78 : decode cX8_frame 78 = .ok (.ireturn, 1) := by decide +kernel
theorem dX8_canBe_0 : decode cX8_canBe 0 = .ok (.iload_n 0, 1) := by decide +kernel
theorem dX8_canBe_1 : decode cX8_canBe 1 = .ok (.ifCond .ne 15, 3) := by decide +kernel
theorem dX8_canBe_4 : decode cX8_canBe 4 = .ok (.iload_n 1, 1) := by decide +kernel
theorem dX8_canBe_5 : decode cX8_canBe 5 = .ok (.i2l, 1) := by decide +kernel
theorem dX8_canBe_6 : decode cX8_canBe 6 = .ok (.lconst 0, 1) := by decide +kernel
theorem dX8_canBe_7 : decode cX8_canBe 7 = .ok (.ldc2_w 213, 3) := by decide +kernel
theorem dX8_canBe_10 : decode cX8_canBe 10 = .ok (.invokestatic 181, 3) := by decide +kernel
theorem dX8_canBe_13 : decode cX8_canBe 13 = .ok (.goto 25, 3) := by decide +kernel
theorem dX8_canBe_16 : decode cX8_canBe 16 = .ok (.iload_n 0, 1) := by decide +kernel
theorem dX8_canBe_17 : decode cX8_canBe 17 = .ok (.iconst 1, 1) := by decide +kernel
theorem dX8_canBe_18 : decode cX8_canBe 18 = .ok (.if_icmp .ne 19, 3) := by decide +kernel
theorem dX8_canBe_21 : decode cX8_canBe 21 = .ok (.iload_n 1, 1) := by decide +kernel
theorem dX8_canBe_22 : decode cX8_canBe 22 = .ok (.i2l, 1) := by decide +kernel
theorem dX8_canBe_23 : decode cX8_canBe 23 = .ok (.lconst 0, 1) := by decide +kernel
theorem dX8_canBe_24 : decode cX8_canBe 24 = .ok (.ldc2_w 215, 3) := by decide +kernel
theorem dX8_canBe_27 : decode cX8_canBe 27 = .ok (.invokestatic 181, 3) := by decide +kernel
theorem dX8_canBe_30 : decode cX8_canBe 30 = .ok (.ifCond .eq 7, 3) := by decide +kernel
theorem dX8_canBe_33 : decode cX8_canBe 33 = .ok (.iconst 1, 1) := by decide +kernel
theorem dX8_canBe_34 : decode cX8_canBe 34 = .ok (.goto 4, 3) := by decide +kernel
theorem dX8_canBe_37 : decode cX8_canBe 37 = .ok (.iconst 0, 1) := by decide +kernel
theorem dX8_canBe_38 : decode cX8_canBe 38 = .ok (.ireturn, 1) := by decide +kernel
theorem dX8_put_0 : decode cX8_put 0 = .ok (.aload_n 0, 1) := by decide +kernel
theorem dX8_put_1 : decode cX8_put 1 = .ok (.iconst 0, 1) := by decide +kernel
theorem dX8_put_2 : decode cX8_put 2 = .ok (.putfield 161, 3) := by decide +kernel
theorem dX8_put_5 : decode cX8_put 5 = .ok (.iload_n 1, 1) := by decide +kernel
theorem dX8_put_6 : decode cX8_put 6 = .ok (.invokestatic 217, 3) := by decide +kernel
theorem dX8_put_9 : decode cX8_put 9 = .ok (.ifCond .eq 11, 3) := by decide +kernel
theorem dX8_put_12 : decode cX8_put 12 = .ok (.iload_n 2, 1) := by decide +kernel
theorem dX8_put_13 : decode cX8_put 13 = .ok (.iload_n 3, 1) := by decide +kernel
theorem dX8_put_14 : decode cX8_put 14 = .ok (.invokestatic 220, 3) := by decide +kernel
theorem dX8_put_17 : decode cX8_put 17 = .ok (.ifCond .ne 9, 3) := by decide +kernel
theorem dX8_put_20 : decode cX8_put 20 = .ok (.aload_n 0, 1) := by decide +kernel
theorem dX8_put_21 : decode cX8_put 21 = .ok (.iconst (-1), 1) := by decide +kernel
theorem dX8_put_22 : decode cX8_put 22 = .ok (.invokevirtual 170, 3) := by decide +kernel
theorem dX8_put_25 : decode cX8_put 25 = .ok (.ireturn, 1) := by decide +kernel
theorem dX8_put_26 : decode cX8_put 26 = .ok (.aload_n 0, 1) := by decide +kernel
theorem dX8_put_27 : decode cX8_put 27 = .ok (.iconst 0, 1) := by decide +kernel
theorem dX8_put_28 : decode cX8_put 28 = .ok (.putfield 167, 3) := by decide +kernel
theorem dX8_put_31 : decode cX8_put 31 = .ok (.aload_n 0, 1) := by decide +kernel
theorem dX8_put_32 : decode cX8_put 32 = .ok (.iload_n 2, 1) := by decide +kernel
theorem dX8_put_33 : decode cX8_put 33 = .ok (.ifCond .ne 8, 3) := by decide +kernel
theorem dX8_put_36 : decode cX8_put 36 = .ok (.bipush 39, 2) := by decide +kernel
theorem dX8_put_38 : decode cX8_put 38 = .ok (.goto 5, 3) := by decide +kernel
theorem dX8_put_41 : decode cX8_put 41 = .ok (.bipush 104, 2) := by decide +kernel
theorem dX8_put_43 : decode cX8_put 43 = .ok (.iload_n 1, 1) := by decide +kernel
theorem dX8_put_44 : decode cX8_put 44 = .ok (.iadd, 1) := by decide +kernel
theorem dX8_put_45 : decode cX8_put 45 = .ok (.iload_n 3, 1) := by decide +kernel
theorem dX8_put_46 : decode cX8_put 46 = .ok (.invokevirtual 223, 3) := by decide +kernel
theorem dX8_put_49 : decode cX8_put 49 = .ok (.ireturn, 1) := by decide +kernel
theorem dX8_at_0 : decode cX8_at 0 = .ok (.aload_n 0, 1) := by decide +kernel
theorem dX8_at_1 : decode cX8_at 1 = .ok (.iconst 0, 1) := by decide +kernel
theorem dX8_at_2 : decode cX8_at 2 = .ok (.putfield 161, 3) := by decide +kernel
theorem dX8_at_5 : decode cX8_at 5 = .ok (.iload_n 1, 1) := by decide +kernel
theorem dX8_at_6 : decode cX8_at 6 = .ok (.invokestatic 217, 3) := by decide +kernel
theorem dX8_at_9 : decode cX8_at 9 = .ok (.ifCond .eq 15, 3) := by decide +kernel
theorem dX8_at_12 : decode cX8_at 12 = .ok (.iload_n 2, 1) := by decide +kernel
theorem dX8_at_13 : decode cX8_at 13 = .ok (.i2l, 1) := by decide +kernel
theorem dX8_at_14 : decode cX8_at 14 = .ok (.lconst 0, 1) := by decide +kernel
theorem dX8_at_15 : decode cX8_at 15 = .ok (.ldc2_w 227, 3) := by decide +kernel
theorem dX8_at_18 : decode cX8_at 18 = .ok (.invokestatic 181, 3) := by decide +kernel
theorem dX8_at_21 : decode cX8_at 21 = .ok (.ifCond .ne 5, 3) := by decide +kernel
theorem dX8_at_24 : decode cX8_at 24 = .ok (.iconst (-1), 1) := by decide +kernel
theorem dX8_at_25 : decode cX8_at 25 = .ok (.ireturn, 1) := by decide +kernel
theorem dX8_at_26 : decode cX8_at 26 = .ok (.iload_n 2, 1) := by decide +kernel
theorem dX8_at_27 : decode cX8_at 27 = .ok (.iconst 2, 1) := by decide +kernel
theorem dX8_at_28 : decode cX8_at 28 = .ok (.if_icmp .ge 22, 3) := by decide +kernel
theorem dX8_at_31 : decode cX8_at 31 = .ok (.aload_n 0, 1) := by decide +kernel
theorem dX8_at_32 : decode cX8_at 32 = .ok (.getfield 13, 3) := by decide +kernel
theorem dX8_at_35 : decode cX8_at 35 = .ok (.iload_n 2, 1) := by decide +kernel
theorem dX8_at_36 : decode cX8_at 36 = .ok (.ifCond .ne 8, 3) := by decide +kernel
theorem dX8_at_39 : decode cX8_at 39 = .ok (.bipush 39, 2) := by decide +kernel
theorem dX8_at_41 : decode cX8_at 41 = .ok (.goto 5, 3) := by decide +kernel
theorem dX8_at_44 : decode cX8_at 44 = .ok (.bipush 104, 2) := by decide +kernel
theorem dX8_at_46 : decode cX8_at 46 = .ok (.iload_n 1, 1) := by decide +kernel
theorem dX8_at_47 : decode cX8_at 47 = .ok (.iadd, 1) := by decide +kernel
theorem dX8_at_48 : decode cX8_at 48 = .ok (.iaload, 1) := by decide +kernel
theorem dX8_at_49 : decode cX8_at 49 = .ok (.ireturn, 1) := by decide +kernel
theorem dX8_at_50 : decode cX8_at 50 = .ok (.iconst 0, 1) := by decide +kernel
theorem dX8_at_51 : decode cX8_at 51 = .ok (.istore_n 3, 1) := by decide +kernel
theorem dX8_at_52 : decode cX8_at 52 = .ok (.iconst 0, 1) := by decide +kernel
theorem dX8_at_53 : decode cX8_at 53 = .ok (.istore 4, 2) := by decide +kernel
theorem dX8_at_55 : decode cX8_at 55 = .ok (.iload 4, 2) := by decide +kernel
theorem dX8_at_57 : decode cX8_at 57 = .ok (.aload_n 0, 1) := by decide +kernel
theorem dX8_at_58 : decode cX8_at 58 = .ok (.getfield 13, 3) := by decide +kernel
theorem dX8_at_61 : decode cX8_at 61 = .ok (.iconst 1, 1) := by decide +kernel
theorem dX8_at_62 : decode cX8_at 62 = .ok (.iaload, 1) := by decide +kernel
theorem dX8_at_63 : decode cX8_at 63 = .ok (.if_icmp .ge 31, 3) := by decide +kernel
theorem dX8_at_66 : decode cX8_at 66 = .ok (.iload_n 3, 1) := by decide +kernel
theorem dX8_at_67 : decode cX8_at 67 = .ok (.aload_n 0, 1) := by decide +kernel
theorem dX8_at_68 : decode cX8_at 68 = .ok (.getfield 13, 3) := by decide +kernel
theorem dX8_at_71 : decode cX8_at 71 = .ok (.bipush 15, 2) := by decide +kernel
theorem dX8_at_73 : decode cX8_at 73 = .ok (.iload 4, 2) := by decide +kernel
theorem dX8_at_75 : decode cX8_at 75 = .ok (.iadd, 1) := by decide +kernel
theorem dX8_at_76 : decode cX8_at 76 = .ok (.iaload, 1) := by decide +kernel
theorem dX8_at_77 : decode cX8_at 77 = .ok (.iload_n 1, 1) := by decide +kernel
theorem dX8_at_78 : decode cX8_at 78 = .ok (.if_icmp .ne 7, 3) := by decide +kernel
theorem dX8_at_81 : decode cX8_at 81 = .ok (.iconst 1, 1) := by decide +kernel
theorem dX8_at_82 : decode cX8_at 82 = .ok (.goto 4, 3) := by decide +kernel
theorem dX8_at_85 : decode cX8_at 85 = .ok (.iconst 0, 1) := by decide +kernel
theorem dX8_at_86 : decode cX8_at 86 = .ok (.iadd, 1) := by decide +kernel
theorem dX8_at_87 : decode cX8_at 87 = .ok (.istore_n 3, 1) := by decide +kernel
theorem dX8_at_88 : decode cX8_at 88 = .ok (.iinc 4 1, 3) := by decide +kernel
theorem dX8_at_91 : decode cX8_at 91 = .ok (.goto (-36), 3) := by decide +kernel
theorem dX8_at_94 : decode cX8_at 94 = .ok (.iload_n 3, 1) := by decide +kernel
theorem dX8_at_95 : decode cX8_at 95 = .ok (.ireturn, 1) := by decide +kernel
theorem dX8_asks_0 : decode cX8_asks 0 = .ok (.aload_n 0, 1) := by decide +kernel
theorem dX8_asks_1 : decode cX8_asks 1 = .ok (.iconst 0, 1) := by decide +kernel
theorem dX8_asks_2 : decode cX8_asks 2 = .ok (.putfield 161, 3) := by decide +kernel
theorem dX8_asks_5 : decode cX8_asks 5 = .ok (.aload_n 0, 1) := by decide +kernel
theorem dX8_asks_6 : decode cX8_asks 6 = .ok (.iload_n 1, 1) := by decide +kernel
theorem dX8_asks_7 : decode cX8_asks 7 = .ok (.invokevirtual 203, 3) := by decide +kernel
theorem dX8_asks_10 : decode cX8_asks 10 = .ok (.ifCond .eq 20, 3) := by decide +kernel
theorem dX8_asks_13 : decode cX8_asks 13 = .ok (.iload_n 2, 1) := by decide +kernel
theorem dX8_asks_14 : decode cX8_asks 14 = .ok (.invokestatic 217, 3) := by decide +kernel
theorem dX8_asks_17 : decode cX8_asks 17 = .ok (.ifCond .eq 13, 3) := by decide +kernel
theorem dX8_asks_20 : decode cX8_asks 20 = .ok (.iload_n 3, 1) := by decide +kernel
theorem dX8_asks_21 : decode cX8_asks 21 = .ok (.i2l, 1) := by decide +kernel
theorem dX8_asks_22 : decode cX8_asks 22 = .ok (.lconst 0, 1) := by decide +kernel
theorem dX8_asks_23 : decode cX8_asks 23 = .ok (.lconst 1, 1) := by decide +kernel
theorem dX8_asks_24 : decode cX8_asks 24 = .ok (.invokestatic 181, 3) := by decide +kernel
theorem dX8_asks_27 : decode cX8_asks 27 = .ok (.ifCond .ne 7, 3) := by decide +kernel
theorem dX8_asks_30 : decode cX8_asks 30 = .ok (.iconst (-1), 1) := by decide +kernel
theorem dX8_asks_31 : decode cX8_asks 31 = .ok (.goto 40, 3) := by decide +kernel
theorem dX8_asks_34 : decode cX8_asks 34 = .ok (.iload_n 3, 1) := by decide +kernel
theorem dX8_asks_35 : decode cX8_asks 35 = .ok (.ifCond .ne 30, 3) := by decide +kernel
theorem dX8_asks_38 : decode cX8_asks 38 = .ok (.aload_n 0, 1) := by decide +kernel
theorem dX8_asks_39 : decode cX8_asks 39 = .ok (.iload_n 1, 1) := by decide +kernel
theorem dX8_asks_40 : decode cX8_asks 40 = .ok (.iload_n 2, 1) := by decide +kernel
theorem dX8_asks_41 : decode cX8_asks 41 = .ok (.aload_n 0, 1) := by decide +kernel
theorem dX8_asks_42 : decode cX8_asks 42 = .ok (.getfield 13, 3) := by decide +kernel
theorem dX8_asks_45 : decode cX8_asks 45 = .ok (.bipush 39, 2) := by decide +kernel
theorem dX8_asks_47 : decode cX8_asks 47 = .ok (.iload_n 2, 1) := by decide +kernel
theorem dX8_asks_48 : decode cX8_asks 48 = .ok (.iadd, 1) := by decide +kernel
theorem dX8_asks_49 : decode cX8_asks 49 = .ok (.iaload, 1) := by decide +kernel
theorem dX8_asks_50 : decode cX8_asks 50 = .ok (.aload_n 0, 1) := by decide +kernel
theorem dX8_asks_51 : decode cX8_asks 51 = .ok (.getfield 13, 3) := by decide +kernel
theorem dX8_asks_54 : decode cX8_asks 54 = .ok (.bipush 23, 2) := by decide +kernel
theorem dX8_asks_56 : decode cX8_asks 56 = .ok (.iload_n 1, 1) := by decide +kernel
theorem dX8_asks_57 : decode cX8_asks 57 = .ok (.iadd, 1) := by decide +kernel
theorem dX8_asks_58 : decode cX8_asks 58 = .ok (.iaload, 1) := by decide +kernel
theorem dX8_asks_59 : decode cX8_asks 59 = .ok (.invokevirtual 229, 3) := by decide +kernel
theorem dX8_asks_62 : decode cX8_asks 62 = .ok (.goto 9, 3) := by decide +kernel
theorem dX8_asks_65 : decode cX8_asks 65 = .ok (.aload_n 0, 1) := by decide +kernel
theorem dX8_asks_66 : decode cX8_asks 66 = .ok (.iload_n 1, 1) := by decide +kernel
theorem dX8_asks_67 : decode cX8_asks 67 = .ok (.iload_n 2, 1) := by decide +kernel
theorem dX8_asks_68 : decode cX8_asks 68 = .ok (.invokevirtual 233, 3) := by decide +kernel
theorem dX8_asks_71 : decode cX8_asks 71 = .ok (.ireturn, 1) := by decide +kernel
theorem dX8_foe_0 : decode cX8_foe 0 = .ok (.aload_n 0, 1) := by decide +kernel
theorem dX8_foe_1 : decode cX8_foe 1 = .ok (.iconst 0, 1) := by decide +kernel
theorem dX8_foe_2 : decode cX8_foe 2 = .ok (.putfield 161, 3) := by decide +kernel
theorem dX8_foe_5 : decode cX8_foe 5 = .ok (.iload_n 1, 1) := by decide +kernel
theorem dX8_foe_6 : decode cX8_foe 6 = .ok (.i2l, 1) := by decide +kernel
theorem dX8_foe_7 : decode cX8_foe 7 = .ok (.lconst 1, 1) := by decide +kernel
theorem dX8_foe_8 : decode cX8_foe 8 = .ok (.ldc2_w 190, 3) := by decide +kernel
theorem dX8_foe_11 : decode cX8_foe 11 = .ok (.invokestatic 181, 3) := by decide +kernel
theorem dX8_foe_14 : decode cX8_foe 14 = .ok (.ifCond .ne 9, 3) := by decide +kernel
theorem dX8_foe_17 : decode cX8_foe 17 = .ok (.aload_n 0, 1) := by decide +kernel
theorem dX8_foe_18 : decode cX8_foe 18 = .ok (.iconst (-1), 1) := by decide +kernel
theorem dX8_foe_19 : decode cX8_foe 19 = .ok (.invokevirtual 170, 3) := by decide +kernel
theorem dX8_foe_22 : decode cX8_foe 22 = .ok (.ireturn, 1) := by decide +kernel
theorem dX8_foe_23 : decode cX8_foe 23 = .ok (.aload_n 0, 1) := by decide +kernel
theorem dX8_foe_24 : decode cX8_foe 24 = .ok (.getfield 13, 3) := by decide +kernel
theorem dX8_foe_27 : decode cX8_foe 27 = .ok (.iconst 2, 1) := by decide +kernel
theorem dX8_foe_28 : decode cX8_foe 28 = .ok (.iaload, 1) := by decide +kernel
theorem dX8_foe_29 : decode cX8_foe 29 = .ok (.istore_n 2, 1) := by decide +kernel
theorem dX8_foe_30 : decode cX8_foe 30 = .ok (.iload_n 2, 1) := by decide +kernel
theorem dX8_foe_31 : decode cX8_foe 31 = .ok (.bipush 8, 2) := by decide +kernel
theorem dX8_foe_33 : decode cX8_foe 33 = .ok (.if_icmp .ne 10, 3) := by decide +kernel
theorem dX8_foe_36 : decode cX8_foe 36 = .ok (.aload_n 0, 1) := by decide +kernel
theorem dX8_foe_37 : decode cX8_foe 37 = .ok (.bipush (-5), 2) := by decide +kernel
theorem dX8_foe_39 : decode cX8_foe 39 = .ok (.invokevirtual 170, 3) := by decide +kernel
theorem dX8_foe_42 : decode cX8_foe 42 = .ok (.ireturn, 1) := by decide +kernel
theorem dX8_foe_43 : decode cX8_foe 43 = .ok (.aload_n 0, 1) := by decide +kernel
theorem dX8_foe_44 : decode cX8_foe 44 = .ok (.getfield 13, 3) := by decide +kernel
theorem dX8_foe_47 : decode cX8_foe 47 = .ok (.sipush 129, 3) := by decide +kernel
theorem dX8_foe_50 : decode cX8_foe 50 = .ok (.iload_n 2, 1) := by decide +kernel
theorem dX8_foe_51 : decode cX8_foe 51 = .ok (.iadd, 1) := by decide +kernel
theorem dX8_foe_52 : decode cX8_foe 52 = .ok (.iload_n 1, 1) := by decide +kernel
theorem dX8_foe_53 : decode cX8_foe 53 = .ok (.iastore, 1) := by decide +kernel
theorem dX8_foe_54 : decode cX8_foe 54 = .ok (.aload_n 0, 1) := by decide +kernel
theorem dX8_foe_55 : decode cX8_foe 55 = .ok (.getfield 13, 3) := by decide +kernel
theorem dX8_foe_58 : decode cX8_foe 58 = .ok (.iconst 2, 1) := by decide +kernel
theorem dX8_foe_59 : decode cX8_foe 59 = .ok (.dup2, 1) := by decide +kernel
theorem dX8_foe_60 : decode cX8_foe 60 = .ok (.iaload, 1) := by decide +kernel
theorem dX8_foe_61 : decode cX8_foe 61 = .ok (.iconst 1, 1) := by decide +kernel
theorem dX8_foe_62 : decode cX8_foe 62 = .ok (.iadd, 1) := by decide +kernel
theorem dX8_foe_63 : decode cX8_foe 63 = .ok (.iastore, 1) := by decide +kernel
theorem dX8_foe_64 : decode cX8_foe 64 = .ok (.aload_n 0, 1) := by decide +kernel
theorem dX8_foe_65 : decode cX8_foe 65 = .ok (.iload_n 2, 1) := by decide +kernel
theorem dX8_foe_66 : decode cX8_foe 66 = .ok (.invokevirtual 170, 3) := by decide +kernel
theorem dX8_foe_69 : decode cX8_foe 69 = .ok (.ireturn, 1) := by decide +kernel
theorem dX8_peace_0 : decode cX8_peace 0 = .ok (.aload_n 0, 1) := by decide +kernel
theorem dX8_peace_1 : decode cX8_peace 1 = .ok (.iconst 0, 1) := by decide +kernel
theorem dX8_peace_2 : decode cX8_peace 2 = .ok (.putfield 161, 3) := by decide +kernel
theorem dX8_peace_5 : decode cX8_peace 5 = .ok (.aload_n 0, 1) := by decide +kernel
theorem dX8_peace_6 : decode cX8_peace 6 = .ok (.getfield 13, 3) := by decide +kernel
theorem dX8_peace_9 : decode cX8_peace 9 = .ok (.iconst 2, 1) := by decide +kernel
theorem dX8_peace_10 : decode cX8_peace 10 = .ok (.iaload, 1) := by decide +kernel
theorem dX8_peace_11 : decode cX8_peace 11 = .ok (.istore_n 1, 1) := by decide +kernel
theorem dX8_peace_12 : decode cX8_peace 12 = .ok (.aload_n 0, 1) := by decide +kernel
theorem dX8_peace_13 : decode cX8_peace 13 = .ok (.getfield 13, 3) := by decide +kernel
theorem dX8_peace_16 : decode cX8_peace 16 = .ok (.iconst 2, 1) := by decide +kernel
theorem dX8_peace_17 : decode cX8_peace 17 = .ok (.iconst 0, 1) := by decide +kernel
theorem dX8_peace_18 : decode cX8_peace 18 = .ok (.iastore, 1) := by decide +kernel
theorem dX8_peace_19 : decode cX8_peace 19 = .ok (.iload_n 1, 1) := by decide +kernel
theorem dX8_peace_20 : decode cX8_peace 20 = .ok (.ireturn, 1) := by decide +kernel
theorem dX8_terms_0 : decode cX8_terms 0 = .ok (.aload_n 0, 1) := by decide +kernel
theorem dX8_terms_1 : decode cX8_terms 1 = .ok (.iconst 0, 1) := by decide +kernel
theorem dX8_terms_2 : decode cX8_terms 2 = .ok (.putfield 161, 3) := by decide +kernel
theorem dX8_terms_5 : decode cX8_terms 5 = .ok (.iload_n 1, 1) := by decide +kernel
theorem dX8_terms_6 : decode cX8_terms 6 = .ok (.ifCond .ne 15, 3) := by decide +kernel
theorem dX8_terms_9 : decode cX8_terms 9 = .ok (.iload_n 2, 1) := by decide +kernel
theorem dX8_terms_10 : decode cX8_terms 10 = .ok (.i2l, 1) := by decide +kernel
theorem dX8_terms_11 : decode cX8_terms 11 = .ok (.lconst 0, 1) := by decide +kernel
theorem dX8_terms_12 : decode cX8_terms 12 = .ok (.ldc2_w 236, 3) := by decide +kernel
theorem dX8_terms_15 : decode cX8_terms 15 = .ok (.invokestatic 181, 3) := by decide +kernel
theorem dX8_terms_18 : decode cX8_terms 18 = .ok (.goto 25, 3) := by decide +kernel
theorem dX8_terms_21 : decode cX8_terms 21 = .ok (.iload_n 1, 1) := by decide +kernel
theorem dX8_terms_22 : decode cX8_terms 22 = .ok (.iconst 1, 1) := by decide +kernel
theorem dX8_terms_23 : decode cX8_terms 23 = .ok (.if_icmp .ne 19, 3) := by decide +kernel
theorem dX8_terms_26 : decode cX8_terms 26 = .ok (.iload_n 2, 1) := by decide +kernel
theorem dX8_terms_27 : decode cX8_terms 27 = .ok (.i2l, 1) := by decide +kernel
theorem dX8_terms_28 : decode cX8_terms 28 = .ok (.lconst 0, 1) := by decide +kernel
theorem dX8_terms_29 : decode cX8_terms 29 = .ok (.ldc2_w 190, 3) := by decide +kernel
theorem dX8_terms_32 : decode cX8_terms 32 = .ok (.invokestatic 181, 3) := by decide +kernel
theorem dX8_terms_35 : decode cX8_terms 35 = .ok (.ifCond .eq 7, 3) := by decide +kernel
theorem dX8_terms_38 : decode cX8_terms 38 = .ok (.iconst 1, 1) := by decide +kernel
theorem dX8_terms_39 : decode cX8_terms 39 = .ok (.goto 4, 3) := by decide +kernel
theorem dX8_terms_42 : decode cX8_terms 42 = .ok (.iconst 0, 1) := by decide +kernel
theorem dX8_terms_43 : decode cX8_terms 43 = .ok (.istore_n 3, 1) := by decide +kernel
theorem dX8_terms_44 : decode cX8_terms 44 = .ok (.iload_n 3, 1) := by decide +kernel
theorem dX8_terms_45 : decode cX8_terms 45 = .ok (.ifCond .ne 9, 3) := by decide +kernel
theorem dX8_terms_48 : decode cX8_terms 48 = .ok (.aload_n 0, 1) := by decide +kernel
theorem dX8_terms_49 : decode cX8_terms 49 = .ok (.iconst (-1), 1) := by decide +kernel
theorem dX8_terms_50 : decode cX8_terms 50 = .ok (.invokevirtual 170, 3) := by decide +kernel
theorem dX8_terms_53 : decode cX8_terms 53 = .ok (.ireturn, 1) := by decide +kernel
theorem dX8_terms_54 : decode cX8_terms 54 = .ok (.aload_n 0, 1) := by decide +kernel
theorem dX8_terms_55 : decode cX8_terms 55 = .ok (.iconst 0, 1) := by decide +kernel
theorem dX8_terms_56 : decode cX8_terms 56 = .ok (.putfield 167, 3) := by decide +kernel
theorem dX8_terms_59 : decode cX8_terms 59 = .ok (.aload_n 0, 1) := by decide +kernel
theorem dX8_terms_60 : decode cX8_terms 60 = .ok (.iconst 5, 1) := by decide +kernel
theorem dX8_terms_61 : decode cX8_terms 61 = .ok (.iload_n 1, 1) := by decide +kernel
theorem dX8_terms_62 : decode cX8_terms 62 = .ok (.iadd, 1) := by decide +kernel
theorem dX8_terms_63 : decode cX8_terms 63 = .ok (.iload_n 2, 1) := by decide +kernel
theorem dX8_terms_64 : decode cX8_terms 64 = .ok (.invokevirtual 223, 3) := by decide +kernel
theorem dX8_terms_67 : decode cX8_terms 67 = .ok (.ireturn, 1) := by decide +kernel
theorem dX8_row_0 : decode cX8_row 0 = .ok (.aload_n 0, 1) := by decide +kernel
theorem dX8_row_1 : decode cX8_row 1 = .ok (.iconst 0, 1) := by decide +kernel
theorem dX8_row_2 : decode cX8_row 2 = .ok (.putfield 161, 3) := by decide +kernel
theorem dX8_row_5 : decode cX8_row 5 = .ok (.aload_n 0, 1) := by decide +kernel
theorem dX8_row_6 : decode cX8_row 6 = .ok (.getfield 238, 3) := by decide +kernel
theorem dX8_row_9 : decode cX8_row 9 = .ok (.istore_n 1, 1) := by decide +kernel
theorem dX8_row_10 : decode cX8_row 10 = .ok (.aload_n 0, 1) := by decide +kernel
theorem dX8_row_11 : decode cX8_row 11 = .ok (.iconst 0, 1) := by decide +kernel
theorem dX8_row_12 : decode cX8_row 12 = .ok (.putfield 238, 3) := by decide +kernel
theorem dX8_row_15 : decode cX8_row 15 = .ok (.iload_n 1, 1) := by decide +kernel
theorem dX8_row_16 : decode cX8_row 16 = .ok (.ifCond .ne 10, 3) := by decide +kernel
theorem dX8_row_19 : decode cX8_row 19 = .ok (.aload_n 0, 1) := by decide +kernel
theorem dX8_row_20 : decode cX8_row 20 = .ok (.bipush (-6), 2) := by decide +kernel
theorem dX8_row_22 : decode cX8_row 22 = .ok (.invokevirtual 170, 3) := by decide +kernel
theorem dX8_row_25 : decode cX8_row 25 = .ok (.ireturn, 1) := by decide +kernel
theorem dX8_row_26 : decode cX8_row 26 = .ok (.aload_n 0, 1) := by decide +kernel
theorem dX8_row_27 : decode cX8_row 27 = .ok (.iconst 0, 1) := by decide +kernel
theorem dX8_row_28 : decode cX8_row 28 = .ok (.putfield 241, 3) := by decide +kernel
theorem dX8_row_31 : decode cX8_row 31 = .ok (.iconst 0, 1) := by decide +kernel
theorem dX8_row_32 : decode cX8_row 32 = .ok (.istore_n 2, 1) := by decide +kernel
theorem dX8_row_33 : decode cX8_row 33 = .ok (.iconst 0, 1) := by decide +kernel
theorem dX8_row_34 : decode cX8_row 34 = .ok (.istore_n 3, 1) := by decide +kernel
theorem dX8_row_35 : decode cX8_row 35 = .ok (.iload_n 3, 1) := by decide +kernel
theorem dX8_row_36 : decode cX8_row 36 = .ok (.iload_n 1, 1) := by decide +kernel
theorem dX8_row_37 : decode cX8_row 37 = .ok (.if_icmp .ge 105, 3) := by decide +kernel
theorem dX8_row_40 : decode cX8_row 40 = .ok (.iload_n 3, 1) := by decide +kernel
theorem dX8_row_41 : decode cX8_row 41 = .ok (.iconst 1, 1) := by decide +kernel
theorem dX8_row_42 : decode cX8_row 42 = .ok (.iadd, 1) := by decide +kernel
theorem dX8_row_43 : decode cX8_row 43 = .ok (.iload_n 1, 1) := by decide +kernel
theorem dX8_row_44 : decode cX8_row 44 = .ok (.if_icmp .ge 82, 3) := by decide +kernel
theorem dX8_row_47 : decode cX8_row 47 = .ok (.iload_n 3, 1) := by decide +kernel
theorem dX8_row_48 : decode cX8_row 48 = .ok (.iconst 2, 1) := by decide +kernel
theorem dX8_row_49 : decode cX8_row 49 = .ok (.idiv, 1) := by decide +kernel
theorem dX8_row_50 : decode cX8_row 50 = .ok (.invokestatic 217, 3) := by decide +kernel
theorem dX8_row_53 : decode cX8_row 53 = .ok (.ifCond .eq 73, 3) := by decide +kernel
theorem dX8_row_56 : decode cX8_row 56 = .ok (.iconst 0, 1) := by decide +kernel
theorem dX8_row_57 : decode cX8_row 57 = .ok (.aload_n 0, 1) := by decide +kernel
theorem dX8_row_58 : decode cX8_row 58 = .ok (.getfield 35, 3) := by decide +kernel
theorem dX8_row_61 : decode cX8_row 61 = .ok (.iload_n 3, 1) := by decide +kernel
theorem dX8_row_62 : decode cX8_row 62 = .ok (.iaload, 1) := by decide +kernel
theorem dX8_row_63 : decode cX8_row 63 = .ok (.invokestatic 220, 3) := by decide +kernel
theorem dX8_row_66 : decode cX8_row 66 = .ok (.ifCond .eq 60, 3) := by decide +kernel
theorem dX8_row_69 : decode cX8_row 69 = .ok (.iconst 1, 1) := by decide +kernel
theorem dX8_row_70 : decode cX8_row 70 = .ok (.aload_n 0, 1) := by decide +kernel
theorem dX8_row_71 : decode cX8_row 71 = .ok (.getfield 35, 3) := by decide +kernel
theorem dX8_row_74 : decode cX8_row 74 = .ok (.iload_n 3, 1) := by decide +kernel
theorem dX8_row_75 : decode cX8_row 75 = .ok (.iconst 1, 1) := by decide +kernel
theorem dX8_row_76 : decode cX8_row 76 = .ok (.iadd, 1) := by decide +kernel
theorem dX8_row_77 : decode cX8_row 77 = .ok (.iaload, 1) := by decide +kernel
theorem dX8_row_78 : decode cX8_row 78 = .ok (.invokestatic 220, 3) := by decide +kernel
theorem dX8_row_81 : decode cX8_row 81 = .ok (.ifCond .eq 45, 3) := by decide +kernel
theorem dX8_row_84 : decode cX8_row 84 = .ok (.aload_n 0, 1) := by decide +kernel
theorem dX8_row_85 : decode cX8_row 85 = .ok (.getfield 13, 3) := by decide +kernel
theorem dX8_row_88 : decode cX8_row 88 = .ok (.bipush 39, 2) := by decide +kernel
theorem dX8_row_90 : decode cX8_row 90 = .ok (.iload_n 3, 1) := by decide +kernel
theorem dX8_row_91 : decode cX8_row 91 = .ok (.iconst 2, 1) := by decide +kernel
theorem dX8_row_92 : decode cX8_row 92 = .ok (.idiv, 1) := by decide +kernel
theorem dX8_row_93 : decode cX8_row 93 = .ok (.iadd, 1) := by decide +kernel
theorem dX8_row_94 : decode cX8_row 94 = .ok (.aload_n 0, 1) := by decide +kernel
theorem dX8_row_95 : decode cX8_row 95 = .ok (.getfield 35, 3) := by decide +kernel
theorem dX8_row_98 : decode cX8_row 98 = .ok (.iload_n 3, 1) := by decide +kernel
theorem dX8_row_99 : decode cX8_row 99 = .ok (.iaload, 1) := by decide +kernel
theorem dX8_row_100 : decode cX8_row 100 = .ok (.iastore, 1) := by decide +kernel
theorem dX8_row_101 : decode cX8_row 101 = .ok (.aload_n 0, 1) := by decide +kernel
theorem dX8_row_102 : decode cX8_row 102 = .ok (.getfield 13, 3) := by decide +kernel
theorem dX8_row_105 : decode cX8_row 105 = .ok (.bipush 104, 2) := by decide +kernel
theorem dX8_row_107 : decode cX8_row 107 = .ok (.iload_n 3, 1) := by decide +kernel
theorem dX8_row_108 : decode cX8_row 108 = .ok (.iconst 2, 1) := by decide +kernel
theorem dX8_row_109 : decode cX8_row 109 = .ok (.idiv, 1) := by decide +kernel
theorem dX8_row_110 : decode cX8_row 110 = .ok (.iadd, 1) := by decide +kernel
theorem dX8_row_111 : decode cX8_row 111 = .ok (.aload_n 0, 1) := by decide +kernel
theorem dX8_row_112 : decode cX8_row 112 = .ok (.getfield 35, 3) := by decide +kernel
theorem dX8_row_115 : decode cX8_row 115 = .ok (.iload_n 3, 1) := by decide +kernel
theorem dX8_row_116 : decode cX8_row 116 = .ok (.iconst 1, 1) := by decide +kernel
theorem dX8_row_117 : decode cX8_row 117 = .ok (.iadd, 1) := by decide +kernel
theorem dX8_row_118 : decode cX8_row 118 = .ok (.iaload, 1) := by decide +kernel
theorem dX8_row_119 : decode cX8_row 119 = .ok (.iastore, 1) := by decide +kernel
theorem dX8_row_120 : decode cX8_row 120 = .ok (.iinc 2 1, 3) := by decide +kernel
theorem dX8_row_123 : decode cX8_row 123 = .ok (.goto 13, 3) := by decide +kernel
theorem dX8_row_126 : decode cX8_row 126 = .ok (.aload_n 0, 1) := by decide +kernel
theorem dX8_row_127 : decode cX8_row 127 = .ok (.dup, 1) := by decide +kernel
theorem dX8_row_128 : decode cX8_row 128 = .ok (.getfield 241, 3) := by decide +kernel
theorem dX8_row_131 : decode cX8_row 131 = .ok (.iconst 1, 1) := by decide +kernel
theorem dX8_row_132 : decode cX8_row 132 = .ok (.iadd, 1) := by decide +kernel
theorem dX8_row_133 : decode cX8_row 133 = .ok (.putfield 241, 3) := by decide +kernel
theorem dX8_row_136 : decode cX8_row 136 = .ok (.iinc 3 2, 3) := by decide +kernel
theorem dX8_row_139 : decode cX8_row 139 = .ok (.goto (-104), 3) := by decide +kernel
theorem dX8_row_142 : decode cX8_row 142 = .ok (.aload_n 0, 1) := by decide +kernel
theorem dX8_row_143 : decode cX8_row 143 = .ok (.iload_n 2, 1) := by decide +kernel
theorem dX8_row_144 : decode cX8_row 144 = .ok (.invokevirtual 185, 3) := by decide +kernel
theorem dX8_row_147 : decode cX8_row 147 = .ok (.ireturn, 1) := by decide +kernel
theorem dX8_foam_0 : decode cX8_foam 0 = .ok (.aload_n 0, 1) := by decide +kernel
theorem dX8_foam_1 : decode cX8_foam 1 = .ok (.iconst 0, 1) := by decide +kernel
theorem dX8_foam_2 : decode cX8_foam 2 = .ok (.putfield 161, 3) := by decide +kernel
theorem dX8_foam_5 : decode cX8_foam 5 = .ok (.aload_n 0, 1) := by decide +kernel
theorem dX8_foam_6 : decode cX8_foam 6 = .ok (.getfield 241, 3) := by decide +kernel
theorem dX8_foam_9 : decode cX8_foam 9 = .ok (.ireturn, 1) := by decide +kernel
theorem dX8_four_0 : decode cX8_four 0 = .ok (.bipush 24, 2) := by decide +kernel
theorem dX8_four_2 : decode cX8_four 2 = .ok (.istore_n 2, 1) := by decide +kernel
theorem dX8_four_3 : decode cX8_four 3 = .ok (.iload_n 2, 1) := by decide +kernel
theorem dX8_four_4 : decode cX8_four 4 = .ok (.ifCond .lt 35, 3) := by decide +kernel
theorem dX8_four_7 : decode cX8_four 7 = .ok (.aload_n 0, 1) := by decide +kernel
theorem dX8_four_8 : decode cX8_four 8 = .ok (.getfield 35, 3) := by decide +kernel
theorem dX8_four_11 : decode cX8_four 11 = .ok (.aload_n 0, 1) := by decide +kernel
theorem dX8_four_12 : decode cX8_four 12 = .ok (.getfield 238, 3) := by decide +kernel
theorem dX8_four_15 : decode cX8_four 15 = .ok (.iload_n 1, 1) := by decide +kernel
theorem dX8_four_16 : decode cX8_four 16 = .ok (.iload_n 2, 1) := by decide +kernel
theorem dX8_four_17 : decode cX8_four 17 = .ok (.ishr, 1) := by decide +kernel
theorem dX8_four_18 : decode cX8_four 18 = .ok (.sipush 255, 3) := by decide +kernel
theorem dX8_four_21 : decode cX8_four 21 = .ok (.iand, 1) := by decide +kernel
theorem dX8_four_22 : decode cX8_four 22 = .ok (.iastore, 1) := by decide +kernel
theorem dX8_four_23 : decode cX8_four 23 = .ok (.aload_n 0, 1) := by decide +kernel
theorem dX8_four_24 : decode cX8_four 24 = .ok (.dup, 1) := by decide +kernel
theorem dX8_four_25 : decode cX8_four 25 = .ok (.getfield 238, 3) := by decide +kernel
theorem dX8_four_28 : decode cX8_four 28 = .ok (.iconst 1, 1) := by decide +kernel
theorem dX8_four_29 : decode cX8_four 29 = .ok (.iadd, 1) := by decide +kernel
theorem dX8_four_30 : decode cX8_four 30 = .ok (.putfield 238, 3) := by decide +kernel
theorem dX8_four_33 : decode cX8_four 33 = .ok (.iinc 2 (-8), 3) := by decide +kernel
theorem dX8_four_36 : decode cX8_four 36 = .ok (.goto (-33), 3) := by decide +kernel
theorem dX8_four_39 : decode cX8_four 39 = .ok (.return_, 1) := by decide +kernel
theorem dX8_feed_0 : decode cX8_feed 0 = .ok (.aload_n 0, 1) := by decide +kernel
theorem dX8_feed_1 : decode cX8_feed 1 = .ok (.iconst 0, 1) := by decide +kernel
theorem dX8_feed_2 : decode cX8_feed 2 = .ok (.putfield 161, 3) := by decide +kernel
theorem dX8_feed_5 : decode cX8_feed 5 = .ok (.aload_n 0, 1) := by decide +kernel
theorem dX8_feed_6 : decode cX8_feed 6 = .ok (.getfield 238, 3) := by decide +kernel
theorem dX8_feed_9 : decode cX8_feed 9 = .ok (.bipush 20, 2) := by decide +kernel
theorem dX8_feed_11 : decode cX8_feed 11 = .ok (.iadd, 1) := by decide +kernel
theorem dX8_feed_12 : decode cX8_feed 12 = .ok (.sipush 400, 3) := by decide +kernel
theorem dX8_feed_15 : decode cX8_feed 15 = .ok (.if_icmp .le 5, 3) := by decide +kernel
theorem dX8_feed_18 : decode cX8_feed 18 = .ok (.iconst (-1), 1) := by decide +kernel
theorem dX8_feed_19 : decode cX8_feed 19 = .ok (.ireturn, 1) := by decide +kernel
theorem dX8_feed_20 : decode cX8_feed 20 = .ok (.aload_n 0, 1) := by decide +kernel
theorem dX8_feed_21 : decode cX8_feed 21 = .ok (.iload_n 1, 1) := by decide +kernel
theorem dX8_feed_22 : decode cX8_feed 22 = .ok (.invokevirtual 244, 3) := by decide +kernel
theorem dX8_feed_25 : decode cX8_feed 25 = .ok (.aload_n 0, 1) := by decide +kernel
theorem dX8_feed_26 : decode cX8_feed 26 = .ok (.iload_n 2, 1) := by decide +kernel
theorem dX8_feed_27 : decode cX8_feed 27 = .ok (.invokevirtual 244, 3) := by decide +kernel
theorem dX8_feed_30 : decode cX8_feed 30 = .ok (.aload_n 0, 1) := by decide +kernel
theorem dX8_feed_31 : decode cX8_feed 31 = .ok (.iload_n 3, 1) := by decide +kernel
theorem dX8_feed_32 : decode cX8_feed 32 = .ok (.invokevirtual 244, 3) := by decide +kernel
theorem dX8_feed_35 : decode cX8_feed 35 = .ok (.aload_n 0, 1) := by decide +kernel
theorem dX8_feed_36 : decode cX8_feed 36 = .ok (.iload 4, 2) := by decide +kernel
theorem dX8_feed_38 : decode cX8_feed 38 = .ok (.invokevirtual 244, 3) := by decide +kernel
theorem dX8_feed_41 : decode cX8_feed 41 = .ok (.aload_n 0, 1) := by decide +kernel
theorem dX8_feed_42 : decode cX8_feed 42 = .ok (.iload 5, 2) := by decide +kernel
theorem dX8_feed_44 : decode cX8_feed 44 = .ok (.invokevirtual 244, 3) := by decide +kernel
theorem dX8_feed_47 : decode cX8_feed 47 = .ok (.aload_n 0, 1) := by decide +kernel
theorem dX8_feed_48 : decode cX8_feed 48 = .ok (.getfield 238, 3) := by decide +kernel
theorem dX8_feed_51 : decode cX8_feed 51 = .ok (.ireturn, 1) := by decide +kernel
theorem dX8_end_0 : decode cX8_end 0 = .ok (.aload_n 0, 1) := by decide +kernel
theorem dX8_end_1 : decode cX8_end 1 = .ok (.iconst 0, 1) := by decide +kernel
theorem dX8_end_2 : decode cX8_end 2 = .ok (.putfield 161, 3) := by decide +kernel
theorem dX8_end_5 : decode cX8_end 5 = .ok (.iload_n 1, 1) := by decide +kernel
theorem dX8_end_6 : decode cX8_end 6 = .ok (.ifCond .lt 11, 3) := by decide +kernel
theorem dX8_end_9 : decode cX8_end 9 = .ok (.iload_n 1, 1) := by decide +kernel
theorem dX8_end_10 : decode cX8_end 10 = .ok (.aload_n 0, 1) := by decide +kernel
theorem dX8_end_11 : decode cX8_end 11 = .ok (.getfield 238, 3) := by decide +kernel
theorem dX8_end_14 : decode cX8_end 14 = .ok (.if_icmp .le 5, 3) := by decide +kernel
theorem dX8_end_17 : decode cX8_end 17 = .ok (.iconst (-1), 1) := by decide +kernel
theorem dX8_end_18 : decode cX8_end 18 = .ok (.ireturn, 1) := by decide +kernel
theorem dX8_end_19 : decode cX8_end 19 = .ok (.aload_n 0, 1) := by decide +kernel
theorem dX8_end_20 : decode cX8_end 20 = .ok (.iload_n 1, 1) := by decide +kernel
theorem dX8_end_21 : decode cX8_end 21 = .ok (.putfield 238, 3) := by decide +kernel
theorem dX8_end_24 : decode cX8_end 24 = .ok (.iload_n 1, 1) := by decide +kernel
theorem dX8_end_25 : decode cX8_end 25 = .ok (.ireturn, 1) := by decide +kernel
theorem dX8_isSmall_0 : decode cX8_isSmall 0 = .ok (.iload_n 0, 1) := by decide +kernel
theorem dX8_isSmall_1 : decode cX8_isSmall 1 = .ok (.bipush 97, 2) := by decide +kernel
theorem dX8_isSmall_3 : decode cX8_isSmall 3 = .ok (.if_icmp .lt 13, 3) := by decide +kernel
theorem dX8_isSmall_6 : decode cX8_isSmall 6 = .ok (.iload_n 0, 1) := by decide +kernel
theorem dX8_isSmall_7 : decode cX8_isSmall 7 = .ok (.bipush 122, 2) := by decide +kernel
theorem dX8_isSmall_9 : decode cX8_isSmall 9 = .ok (.if_icmp .gt 7, 3) := by decide +kernel
theorem dX8_isSmall_12 : decode cX8_isSmall 12 = .ok (.iconst 1, 1) := by decide +kernel
theorem dX8_isSmall_13 : decode cX8_isSmall 13 = .ok (.goto 4, 3) := by decide +kernel
theorem dX8_isSmall_16 : decode cX8_isSmall 16 = .ok (.iconst 0, 1) := by decide +kernel
theorem dX8_isSmall_17 : decode cX8_isSmall 17 = .ok (.ireturn, 1) := by decide +kernel
theorem dX8_isDigit_0 : decode cX8_isDigit 0 = .ok (.iload_n 0, 1) := by decide +kernel
theorem dX8_isDigit_1 : decode cX8_isDigit 1 = .ok (.bipush 48, 2) := by decide +kernel
theorem dX8_isDigit_3 : decode cX8_isDigit 3 = .ok (.if_icmp .lt 13, 3) := by decide +kernel
theorem dX8_isDigit_6 : decode cX8_isDigit 6 = .ok (.iload_n 0, 1) := by decide +kernel
theorem dX8_isDigit_7 : decode cX8_isDigit 7 = .ok (.bipush 57, 2) := by decide +kernel
theorem dX8_isDigit_9 : decode cX8_isDigit 9 = .ok (.if_icmp .gt 7, 3) := by decide +kernel
theorem dX8_isDigit_12 : decode cX8_isDigit 12 = .ok (.iconst 1, 1) := by decide +kernel
theorem dX8_isDigit_13 : decode cX8_isDigit 13 = .ok (.goto 4, 3) := by decide +kernel
theorem dX8_isDigit_16 : decode cX8_isDigit 16 = .ok (.iconst 0, 1) := by decide +kernel
theorem dX8_isDigit_17 : decode cX8_isDigit 17 = .ok (.ireturn, 1) := by decide +kernel
theorem dX8_begin_0 : decode cX8_begin 0 = .ok (.aload_n 0, 1) := by decide +kernel
theorem dX8_begin_1 : decode cX8_begin 1 = .ok (.iconst 0, 1) := by decide +kernel
theorem dX8_begin_2 : decode cX8_begin 2 = .ok (.putfield 247, 3) := by decide +kernel
theorem dX8_begin_5 : decode cX8_begin 5 = .ok (.aload_n 0, 1) := by decide +kernel
theorem dX8_begin_6 : decode cX8_begin 6 = .ok (.iconst 0, 1) := by decide +kernel
theorem dX8_begin_7 : decode cX8_begin 7 = .ok (.putfield 250, 3) := by decide +kernel
theorem dX8_begin_10 : decode cX8_begin 10 = .ok (.aload_n 0, 1) := by decide +kernel
theorem dX8_begin_11 : decode cX8_begin 11 = .ok (.iconst (-1), 1) := by decide +kernel
theorem dX8_begin_12 : decode cX8_begin 12 = .ok (.putfield 38, 3) := by decide +kernel
theorem dX8_begin_15 : decode cX8_begin 15 = .ok (.aload_n 0, 1) := by decide +kernel
theorem dX8_begin_16 : decode cX8_begin 16 = .ok (.invokevirtual 254, 3) := by decide +kernel
theorem dX8_begin_19 : decode cX8_begin 19 = .ok (.return_, 1) := by decide +kernel
theorem dX8_next_0 : decode cX8_next 0 = .ok (.aload_n 0, 1) := by decide +kernel
theorem dX8_next_1 : decode cX8_next 1 = .ok (.aload_n 0, 1) := by decide +kernel
theorem dX8_next_2 : decode cX8_next 2 = .ok (.getfield 247, 3) := by decide +kernel
theorem dX8_next_5 : decode cX8_next 5 = .ok (.putfield 257, 3) := by decide +kernel
theorem dX8_next_8 : decode cX8_next 8 = .ok (.aload_n 0, 1) := by decide +kernel
theorem dX8_next_9 : decode cX8_next 9 = .ok (.getfield 257, 3) := by decide +kernel
theorem dX8_next_12 : decode cX8_next 12 = .ok (.aload_n 0, 1) := by decide +kernel
theorem dX8_next_13 : decode cX8_next 13 = .ok (.getfield 238, 3) := by decide +kernel
theorem dX8_next_16 : decode cX8_next 16 = .ok (.if_icmp .ge 30, 3) := by decide +kernel
theorem dX8_next_19 : decode cX8_next 19 = .ok (.aload_n 0, 1) := by decide +kernel
theorem dX8_next_20 : decode cX8_next 20 = .ok (.getfield 35, 3) := by decide +kernel
theorem dX8_next_23 : decode cX8_next 23 = .ok (.aload_n 0, 1) := by decide +kernel
theorem dX8_next_24 : decode cX8_next 24 = .ok (.getfield 257, 3) := by decide +kernel
theorem dX8_next_27 : decode cX8_next 27 = .ok (.iaload, 1) := by decide +kernel
theorem dX8_next_28 : decode cX8_next 28 = .ok (.bipush 32, 2) := by decide +kernel
theorem dX8_next_30 : decode cX8_next 30 = .ok (.if_icmp .ne 16, 3) := by decide +kernel
theorem dX8_next_33 : decode cX8_next 33 = .ok (.aload_n 0, 1) := by decide +kernel
theorem dX8_next_34 : decode cX8_next 34 = .ok (.dup, 1) := by decide +kernel
theorem dX8_next_35 : decode cX8_next 35 = .ok (.getfield 257, 3) := by decide +kernel
theorem dX8_next_38 : decode cX8_next 38 = .ok (.iconst 1, 1) := by decide +kernel
theorem dX8_next_39 : decode cX8_next 39 = .ok (.iadd, 1) := by decide +kernel
theorem dX8_next_40 : decode cX8_next 40 = .ok (.putfield 257, 3) := by decide +kernel
theorem dX8_next_43 : decode cX8_next 43 = .ok (.goto (-35), 3) := by decide +kernel
theorem dX8_next_46 : decode cX8_next 46 = .ok (.aload_n 0, 1) := by decide +kernel
theorem dX8_next_47 : decode cX8_next 47 = .ok (.aload_n 0, 1) := by decide +kernel
theorem dX8_next_48 : decode cX8_next 48 = .ok (.getfield 257, 3) := by decide +kernel
theorem dX8_next_51 : decode cX8_next 51 = .ok (.putfield 247, 3) := by decide +kernel
theorem dX8_next_54 : decode cX8_next 54 = .ok (.aload_n 0, 1) := by decide +kernel
theorem dX8_next_55 : decode cX8_next 55 = .ok (.lconst 0, 1) := by decide +kernel
theorem dX8_next_56 : decode cX8_next 56 = .ok (.putfield 260, 3) := by decide +kernel
theorem dX8_next_59 : decode cX8_next 59 = .ok (.aload_n 0, 1) := by decide +kernel
theorem dX8_next_60 : decode cX8_next 60 = .ok (.aload_n 0, 1) := by decide +kernel
theorem dX8_next_61 : decode cX8_next 61 = .ok (.getfield 257, 3) := by decide +kernel
theorem dX8_next_64 : decode cX8_next 64 = .ok (.aload_n 0, 1) := by decide +kernel
theorem dX8_next_65 : decode cX8_next 65 = .ok (.getfield 238, 3) := by decide +kernel
theorem dX8_next_68 : decode cX8_next 68 = .ok (.if_icmp .ne 7, 3) := by decide +kernel
theorem dX8_next_71 : decode cX8_next 71 = .ok (.iconst 0, 1) := by decide +kernel
theorem dX8_next_72 : decode cX8_next 72 = .ok (.goto 42, 3) := by decide +kernel
theorem dX8_next_75 : decode cX8_next 75 = .ok (.aload_n 0, 1) := by decide +kernel
theorem dX8_next_76 : decode cX8_next 76 = .ok (.getfield 35, 3) := by decide +kernel
theorem dX8_next_79 : decode cX8_next 79 = .ok (.aload_n 0, 1) := by decide +kernel
theorem dX8_next_80 : decode cX8_next 80 = .ok (.getfield 257, 3) := by decide +kernel
theorem dX8_next_83 : decode cX8_next 83 = .ok (.iaload, 1) := by decide +kernel
theorem dX8_next_84 : decode cX8_next 84 = .ok (.invokestatic 264, 3) := by decide +kernel
theorem dX8_next_87 : decode cX8_next 87 = .ok (.ifCond .eq 7, 3) := by decide +kernel
theorem dX8_next_90 : decode cX8_next 90 = .ok (.iconst 1, 1) := by decide +kernel
theorem dX8_next_91 : decode cX8_next 91 = .ok (.goto 23, 3) := by decide +kernel
theorem dX8_next_94 : decode cX8_next 94 = .ok (.aload_n 0, 1) := by decide +kernel
theorem dX8_next_95 : decode cX8_next 95 = .ok (.getfield 35, 3) := by decide +kernel
theorem dX8_next_98 : decode cX8_next 98 = .ok (.aload_n 0, 1) := by decide +kernel
theorem dX8_next_99 : decode cX8_next 99 = .ok (.getfield 257, 3) := by decide +kernel
theorem dX8_next_102 : decode cX8_next 102 = .ok (.iaload, 1) := by decide +kernel
theorem dX8_next_103 : decode cX8_next 103 = .ok (.invokestatic 267, 3) := by decide +kernel
theorem dX8_next_106 : decode cX8_next 106 = .ok (.ifCond .eq 7, 3) := by decide +kernel
theorem dX8_next_109 : decode cX8_next 109 = .ok (.iconst 2, 1) := by decide +kernel
theorem dX8_next_110 : decode cX8_next 110 = .ok (.goto 4, 3) := by decide +kernel
theorem dX8_next_113 : decode cX8_next 113 = .ok (.iconst 3, 1) := by decide +kernel
theorem dX8_next_114 : decode cX8_next 114 = .ok (.putfield 270, 3) := by decide +kernel
theorem dX8_next_117 : decode cX8_next 117 = .ok (.aload_n 0, 1) := by decide +kernel
theorem dX8_next_118 : decode cX8_next 118 = .ok (.getfield 270, 3) := by decide +kernel
theorem dX8_next_121 : decode cX8_next 121 = .ok (.iconst 3, 1) := by decide +kernel
theorem dX8_next_122 : decode cX8_next 122 = .ok (.if_icmp .ne 27, 3) := by decide +kernel
theorem dX8_next_125 : decode cX8_next 125 = .ok (.aload_n 0, 1) := by decide +kernel
theorem dX8_next_126 : decode cX8_next 126 = .ok (.aload_n 0, 1) := by decide +kernel
theorem dX8_next_127 : decode cX8_next 127 = .ok (.getfield 35, 3) := by decide +kernel
theorem dX8_next_130 : decode cX8_next 130 = .ok (.aload_n 0, 1) := by decide +kernel
theorem dX8_next_131 : decode cX8_next 131 = .ok (.getfield 257, 3) := by decide +kernel
theorem dX8_next_134 : decode cX8_next 134 = .ok (.iaload, 1) := by decide +kernel
theorem dX8_next_135 : decode cX8_next 135 = .ok (.i2l, 1) := by decide +kernel
theorem dX8_next_136 : decode cX8_next 136 = .ok (.putfield 260, 3) := by decide +kernel
theorem dX8_next_139 : decode cX8_next 139 = .ok (.aload_n 0, 1) := by decide +kernel
theorem dX8_next_140 : decode cX8_next 140 = .ok (.dup, 1) := by decide +kernel
theorem dX8_next_141 : decode cX8_next 141 = .ok (.getfield 247, 3) := by decide +kernel
theorem dX8_next_144 : decode cX8_next 144 = .ok (.iconst 1, 1) := by decide +kernel
theorem dX8_next_145 : decode cX8_next 145 = .ok (.iadd, 1) := by decide +kernel
theorem dX8_next_146 : decode cX8_next 146 = .ok (.putfield 247, 3) := by decide +kernel
theorem dX8_next_149 : decode cX8_next 149 = .ok (.aload_n 0, 1) := by decide +kernel
theorem dX8_next_150 : decode cX8_next 150 = .ok (.getfield 270, 3) := by decide +kernel
theorem dX8_next_153 : decode cX8_next 153 = .ok (.iconst 1, 1) := by decide +kernel
theorem dX8_next_154 : decode cX8_next 154 = .ok (.if_icmp .ne 89, 3) := by decide +kernel
theorem dX8_next_157 : decode cX8_next 157 = .ok (.aload_n 0, 1) := by decide +kernel
theorem dX8_next_158 : decode cX8_next 158 = .ok (.getfield 247, 3) := by decide +kernel
theorem dX8_next_161 : decode cX8_next 161 = .ok (.aload_n 0, 1) := by decide +kernel
theorem dX8_next_162 : decode cX8_next 162 = .ok (.getfield 238, 3) := by decide +kernel
theorem dX8_next_165 : decode cX8_next 165 = .ok (.if_icmp .ge 78, 3) := by decide +kernel
theorem dX8_next_168 : decode cX8_next 168 = .ok (.aload_n 0, 1) := by decide +kernel
theorem dX8_next_169 : decode cX8_next 169 = .ok (.getfield 35, 3) := by decide +kernel
theorem dX8_next_172 : decode cX8_next 172 = .ok (.aload_n 0, 1) := by decide +kernel
theorem dX8_next_173 : decode cX8_next 173 = .ok (.getfield 247, 3) := by decide +kernel
theorem dX8_next_176 : decode cX8_next 176 = .ok (.iaload, 1) := by decide +kernel
theorem dX8_next_177 : decode cX8_next 177 = .ok (.invokestatic 264, 3) := by decide +kernel
theorem dX8_next_180 : decode cX8_next 180 = .ok (.ifCond .eq 63, 3) := by decide +kernel
theorem dX8_next_183 : decode cX8_next 183 = .ok (.aload_n 0, 1) := by decide +kernel
theorem dX8_next_184 : decode cX8_next 184 = .ok (.aload_n 0, 1) := by decide +kernel
theorem dX8_next_185 : decode cX8_next 185 = .ok (.getfield 247, 3) := by decide +kernel
theorem dX8_next_188 : decode cX8_next 188 = .ok (.aload_n 0, 1) := by decide +kernel
theorem dX8_next_189 : decode cX8_next 189 = .ok (.getfield 257, 3) := by decide +kernel
theorem dX8_next_192 : decode cX8_next 192 = .ok (.isub, 1) := by decide +kernel
theorem dX8_next_193 : decode cX8_next 193 = .ok (.bipush 10, 2) := by decide +kernel
theorem dX8_next_195 : decode cX8_next 195 = .ok (.if_icmp .ge 29, 3) := by decide +kernel
theorem dX8_next_198 : decode cX8_next 198 = .ok (.aload_n 0, 1) := by decide +kernel
theorem dX8_next_199 : decode cX8_next 199 = .ok (.getfield 260, 3) := by decide +kernel
theorem dX8_next_202 : decode cX8_next 202 = .ok (.ldc2_w 273, 3) := by decide +kernel
theorem dX8_next_205 : decode cX8_next 205 = .ok (.lmul, 1) := by decide +kernel
theorem dX8_next_206 : decode cX8_next 206 = .ok (.aload_n 0, 1) := by decide +kernel
theorem dX8_next_207 : decode cX8_next 207 = .ok (.getfield 35, 3) := by decide +kernel
theorem dX8_next_210 : decode cX8_next 210 = .ok (.aload_n 0, 1) := by decide +kernel
theorem dX8_next_211 : decode cX8_next 211 = .ok (.getfield 247, 3) := by decide +kernel
theorem dX8_next_214 : decode cX8_next 214 = .ok (.iaload, 1) := by decide +kernel
theorem dX8_next_215 : decode cX8_next 215 = .ok (.i2l, 1) := by decide +kernel
theorem dX8_next_216 : decode cX8_next 216 = .ok (.ladd, 1) := by decide +kernel
theorem dX8_next_217 : decode cX8_next 217 = .ok (.ldc2_w 275, 3) := by decide +kernel
theorem dX8_next_220 : decode cX8_next 220 = .ok (.lsub, 1) := by decide +kernel
theorem dX8_next_221 : decode cX8_next 221 = .ok (.goto 6, 3) := by decide +kernel
theorem dX8_next_224 : decode cX8_next 224 = .ok (.ldc2_w 277, 3) := by decide +kernel
theorem dX8_next_227 : decode cX8_next 227 = .ok (.putfield 260, 3) := by decide +kernel
theorem dX8_next_230 : decode cX8_next 230 = .ok (.aload_n 0, 1) := by decide +kernel
theorem dX8_next_231 : decode cX8_next 231 = .ok (.dup, 1) := by decide +kernel
theorem dX8_next_232 : decode cX8_next 232 = .ok (.getfield 247, 3) := by decide +kernel
theorem dX8_next_235 : decode cX8_next 235 = .ok (.iconst 1, 1) := by decide +kernel
theorem dX8_next_236 : decode cX8_next 236 = .ok (.iadd, 1) := by decide +kernel
theorem dX8_next_237 : decode cX8_next 237 = .ok (.putfield 247, 3) := by decide +kernel
theorem dX8_next_240 : decode cX8_next 240 = .ok (.goto (-91), 3) := by decide +kernel
theorem dX8_next_243 : decode cX8_next 243 = .ok (.aload_n 0, 1) := by decide +kernel
theorem dX8_next_244 : decode cX8_next 244 = .ok (.getfield 270, 3) := by decide +kernel
theorem dX8_next_247 : decode cX8_next 247 = .ok (.iconst 2, 1) := by decide +kernel
theorem dX8_next_248 : decode cX8_next 248 = .ok (.if_icmp .ne 87, 3) := by decide +kernel
theorem dX8_next_251 : decode cX8_next 251 = .ok (.aload_n 0, 1) := by decide +kernel
theorem dX8_next_252 : decode cX8_next 252 = .ok (.getfield 247, 3) := by decide +kernel
theorem dX8_next_255 : decode cX8_next 255 = .ok (.aload_n 0, 1) := by decide +kernel
theorem dX8_next_256 : decode cX8_next 256 = .ok (.getfield 238, 3) := by decide +kernel
theorem dX8_next_259 : decode cX8_next 259 = .ok (.if_icmp .ge 76, 3) := by decide +kernel
theorem dX8_next_262 : decode cX8_next 262 = .ok (.aload_n 0, 1) := by decide +kernel
theorem dX8_next_263 : decode cX8_next 263 = .ok (.getfield 35, 3) := by decide +kernel
theorem dX8_next_266 : decode cX8_next 266 = .ok (.aload_n 0, 1) := by decide +kernel
theorem dX8_next_267 : decode cX8_next 267 = .ok (.getfield 247, 3) := by decide +kernel
theorem dX8_next_270 : decode cX8_next 270 = .ok (.iaload, 1) := by decide +kernel
theorem dX8_next_271 : decode cX8_next 271 = .ok (.invokestatic 267, 3) := by decide +kernel
theorem dX8_next_274 : decode cX8_next 274 = .ok (.ifCond .eq 61, 3) := by decide +kernel
theorem dX8_next_277 : decode cX8_next 277 = .ok (.aload_n 0, 1) := by decide +kernel
theorem dX8_next_278 : decode cX8_next 278 = .ok (.aload_n 0, 1) := by decide +kernel
theorem dX8_next_279 : decode cX8_next 279 = .ok (.getfield 260, 3) := by decide +kernel
theorem dX8_next_282 : decode cX8_next 282 = .ok (.ldc2_w 279, 3) := by decide +kernel
theorem dX8_next_285 : decode cX8_next 285 = .ok (.lcmp, 1) := by decide +kernel
theorem dX8_next_286 : decode cX8_next 286 = .ok (.ifCond .le 10, 3) := by decide +kernel
theorem dX8_next_289 : decode cX8_next 289 = .ok (.aload_n 0, 1) := by decide +kernel
theorem dX8_next_290 : decode cX8_next 290 = .ok (.getfield 260, 3) := by decide +kernel
theorem dX8_next_293 : decode cX8_next 293 = .ok (.goto 26, 3) := by decide +kernel
theorem dX8_next_296 : decode cX8_next 296 = .ok (.aload_n 0, 1) := by decide +kernel
theorem dX8_next_297 : decode cX8_next 297 = .ok (.getfield 260, 3) := by decide +kernel
theorem dX8_next_300 : decode cX8_next 300 = .ok (.ldc2_w 281, 3) := by decide +kernel
theorem dX8_next_303 : decode cX8_next 303 = .ok (.lmul, 1) := by decide +kernel
theorem dX8_next_304 : decode cX8_next 304 = .ok (.aload_n 0, 1) := by decide +kernel
theorem dX8_next_305 : decode cX8_next 305 = .ok (.getfield 35, 3) := by decide +kernel
theorem dX8_next_308 : decode cX8_next 308 = .ok (.aload_n 0, 1) := by decide +kernel
theorem dX8_next_309 : decode cX8_next 309 = .ok (.getfield 247, 3) := by decide +kernel
theorem dX8_next_312 : decode cX8_next 312 = .ok (.iaload, 1) := by decide +kernel
theorem dX8_next_313 : decode cX8_next 313 = .ok (.i2l, 1) := by decide +kernel
theorem dX8_next_314 : decode cX8_next 314 = .ok (.ladd, 1) := by decide +kernel
theorem dX8_next_315 : decode cX8_next 315 = .ok (.ldc2_w 283, 3) := by decide +kernel
theorem dX8_next_318 : decode cX8_next 318 = .ok (.lsub, 1) := by decide +kernel
theorem dX8_next_319 : decode cX8_next 319 = .ok (.putfield 260, 3) := by decide +kernel
theorem dX8_next_322 : decode cX8_next 322 = .ok (.aload_n 0, 1) := by decide +kernel
theorem dX8_next_323 : decode cX8_next 323 = .ok (.dup, 1) := by decide +kernel
theorem dX8_next_324 : decode cX8_next 324 = .ok (.getfield 247, 3) := by decide +kernel
theorem dX8_next_327 : decode cX8_next 327 = .ok (.iconst 1, 1) := by decide +kernel
theorem dX8_next_328 : decode cX8_next 328 = .ok (.iadd, 1) := by decide +kernel
theorem dX8_next_329 : decode cX8_next 329 = .ok (.putfield 247, 3) := by decide +kernel
theorem dX8_next_332 : decode cX8_next 332 = .ok (.goto (-89), 3) := by decide +kernel
theorem dX8_next_335 : decode cX8_next 335 = .ok (.return_, 1) := by decide +kernel
theorem dX8_isWord_0 : decode cX8_isWord 0 = .ok (.aload_n 0, 1) := by decide +kernel
theorem dX8_isWord_1 : decode cX8_isWord 1 = .ok (.getfield 270, 3) := by decide +kernel
theorem dX8_isWord_4 : decode cX8_isWord 4 = .ok (.iconst 1, 1) := by decide +kernel
theorem dX8_isWord_5 : decode cX8_isWord 5 = .ok (.if_icmp .ne 16, 3) := by decide +kernel
theorem dX8_isWord_8 : decode cX8_isWord 8 = .ok (.aload_n 0, 1) := by decide +kernel
theorem dX8_isWord_9 : decode cX8_isWord 9 = .ok (.getfield 260, 3) := by decide +kernel
theorem dX8_isWord_12 : decode cX8_isWord 12 = .ok (.lload_n 1, 1) := by decide +kernel
theorem dX8_isWord_13 : decode cX8_isWord 13 = .ok (.lcmp, 1) := by decide +kernel
theorem dX8_isWord_14 : decode cX8_isWord 14 = .ok (.ifCond .ne 7, 3) := by decide +kernel
theorem dX8_isWord_17 : decode cX8_isWord 17 = .ok (.iconst 1, 1) := by decide +kernel
theorem dX8_isWord_18 : decode cX8_isWord 18 = .ok (.goto 4, 3) := by decide +kernel
theorem dX8_isWord_21 : decode cX8_isWord 21 = .ok (.iconst 0, 1) := by decide +kernel
theorem dX8_isWord_22 : decode cX8_isWord 22 = .ok (.ireturn, 1) := by decide +kernel
theorem dX8_isSign_0 : decode cX8_isSign 0 = .ok (.aload_n 0, 1) := by decide +kernel
theorem dX8_isSign_1 : decode cX8_isSign 1 = .ok (.getfield 270, 3) := by decide +kernel
theorem dX8_isSign_4 : decode cX8_isSign 4 = .ok (.iconst 3, 1) := by decide +kernel
theorem dX8_isSign_5 : decode cX8_isSign 5 = .ok (.if_icmp .ne 17, 3) := by decide +kernel
theorem dX8_isSign_8 : decode cX8_isSign 8 = .ok (.aload_n 0, 1) := by decide +kernel
theorem dX8_isSign_9 : decode cX8_isSign 9 = .ok (.getfield 260, 3) := by decide +kernel
theorem dX8_isSign_12 : decode cX8_isSign 12 = .ok (.iload_n 1, 1) := by decide +kernel
theorem dX8_isSign_13 : decode cX8_isSign 13 = .ok (.i2l, 1) := by decide +kernel
theorem dX8_isSign_14 : decode cX8_isSign 14 = .ok (.lcmp, 1) := by decide +kernel
theorem dX8_isSign_15 : decode cX8_isSign 15 = .ok (.ifCond .ne 7, 3) := by decide +kernel
theorem dX8_isSign_18 : decode cX8_isSign 18 = .ok (.iconst 1, 1) := by decide +kernel
theorem dX8_isSign_19 : decode cX8_isSign 19 = .ok (.goto 4, 3) := by decide +kernel
theorem dX8_isSign_22 : decode cX8_isSign 22 = .ok (.iconst 0, 1) := by decide +kernel
theorem dX8_isSign_23 : decode cX8_isSign 23 = .ok (.ireturn, 1) := by decide +kernel
theorem dX8_must_0 : decode cX8_must 0 = .ok (.aload_n 0, 1) := by decide +kernel
theorem dX8_must_1 : decode cX8_must 1 = .ok (.getfield 250, 3) := by decide +kernel
theorem dX8_must_4 : decode cX8_must 4 = .ok (.ifCond .ne 20, 3) := by decide +kernel
theorem dX8_must_7 : decode cX8_must 7 = .ok (.iload_n 1, 1) := by decide +kernel
theorem dX8_must_8 : decode cX8_must 8 = .ok (.ifCond .ne 16, 3) := by decide +kernel
theorem dX8_must_11 : decode cX8_must 11 = .ok (.aload_n 0, 1) := by decide +kernel
theorem dX8_must_12 : decode cX8_must 12 = .ok (.iconst 1, 1) := by decide +kernel
theorem dX8_must_13 : decode cX8_must 13 = .ok (.putfield 250, 3) := by decide +kernel
theorem dX8_must_16 : decode cX8_must 16 = .ok (.aload_n 0, 1) := by decide +kernel
theorem dX8_must_17 : decode cX8_must 17 = .ok (.aload_n 0, 1) := by decide +kernel
theorem dX8_must_18 : decode cX8_must 18 = .ok (.getfield 257, 3) := by decide +kernel
theorem dX8_must_21 : decode cX8_must 21 = .ok (.putfield 38, 3) := by decide +kernel
theorem dX8_must_24 : decode cX8_must 24 = .ok (.aload_n 0, 1) := by decide +kernel
theorem dX8_must_25 : decode cX8_must 25 = .ok (.getfield 250, 3) := by decide +kernel
theorem dX8_must_28 : decode cX8_must 28 = .ok (.ifCond .ne 7, 3) := by decide +kernel
theorem dX8_must_31 : decode cX8_must 31 = .ok (.aload_n 0, 1) := by decide +kernel
theorem dX8_must_32 : decode cX8_must 32 = .ok (.invokevirtual 254, 3) := by decide +kernel
theorem dX8_must_35 : decode cX8_must 35 = .ok (.return_, 1) := by decide +kernel
theorem dX8_number_0 : decode cX8_number 0 = .ok (.aload_n 0, 1) := by decide +kernel
theorem dX8_number_1 : decode cX8_number 1 = .ok (.getfield 260, 3) := by decide +kernel
theorem dX8_number_4 : decode cX8_number 4 = .ok (.l2i, 1) := by decide +kernel
theorem dX8_number_5 : decode cX8_number 5 = .ok (.istore 5, 2) := by decide +kernel
theorem dX8_number_7 : decode cX8_number 7 = .ok (.aload_n 0, 1) := by decide +kernel
theorem dX8_number_8 : decode cX8_number 8 = .ok (.aload_n 0, 1) := by decide +kernel
theorem dX8_number_9 : decode cX8_number 9 = .ok (.getfield 270, 3) := by decide +kernel
theorem dX8_number_12 : decode cX8_number 12 = .ok (.iconst 2, 1) := by decide +kernel
theorem dX8_number_13 : decode cX8_number 13 = .ok (.if_icmp .ne 19, 3) := by decide +kernel
theorem dX8_number_16 : decode cX8_number 16 = .ok (.aload_n 0, 1) := by decide +kernel
theorem dX8_number_17 : decode cX8_number 17 = .ok (.getfield 260, 3) := by decide +kernel
theorem dX8_number_20 : decode cX8_number 20 = .ok (.lload_n 1, 1) := by decide +kernel
theorem dX8_number_21 : decode cX8_number 21 = .ok (.lload_n 3, 1) := by decide +kernel
theorem dX8_number_22 : decode cX8_number 22 = .ok (.invokestatic 181, 3) := by decide +kernel
theorem dX8_number_25 : decode cX8_number 25 = .ok (.ifCond .eq 7, 3) := by decide +kernel
theorem dX8_number_28 : decode cX8_number 28 = .ok (.iconst 1, 1) := by decide +kernel
theorem dX8_number_29 : decode cX8_number 29 = .ok (.goto 4, 3) := by decide +kernel
theorem dX8_number_32 : decode cX8_number 32 = .ok (.iconst 0, 1) := by decide +kernel
theorem dX8_number_33 : decode cX8_number 33 = .ok (.invokevirtual 285, 3) := by decide +kernel
theorem dX8_number_36 : decode cX8_number 36 = .ok (.iload 5, 2) := by decide +kernel
theorem dX8_number_38 : decode cX8_number 38 = .ok (.ireturn, 1) := by decide +kernel
theorem dX8_fault_0 : decode cX8_fault 0 = .ok (.aload_n 0, 1) := by decide +kernel
theorem dX8_fault_1 : decode cX8_fault 1 = .ok (.iconst 0, 1) := by decide +kernel
theorem dX8_fault_2 : decode cX8_fault 2 = .ok (.putfield 161, 3) := by decide +kernel
theorem dX8_fault_5 : decode cX8_fault 5 = .ok (.aload_n 0, 1) := by decide +kernel
theorem dX8_fault_6 : decode cX8_fault 6 = .ok (.getfield 38, 3) := by decide +kernel
theorem dX8_fault_9 : decode cX8_fault 9 = .ok (.ireturn, 1) := by decide +kernel
theorem dX8_emit_0 : decode cX8_emit 0 = .ok (.aload_n 0, 1) := by decide +kernel
theorem dX8_emit_1 : decode cX8_emit 1 = .ok (.getfield 45, 3) := by decide +kernel
theorem dX8_emit_4 : decode cX8_emit 4 = .ok (.aload_n 0, 1) := by decide +kernel
theorem dX8_emit_5 : decode cX8_emit 5 = .ok (.getfield 289, 3) := by decide +kernel
theorem dX8_emit_8 : decode cX8_emit 8 = .ok (.iload_n 1, 1) := by decide +kernel
theorem dX8_emit_9 : decode cX8_emit 9 = .ok (.iastore, 1) := by decide +kernel
theorem dX8_emit_10 : decode cX8_emit 10 = .ok (.aload_n 0, 1) := by decide +kernel
theorem dX8_emit_11 : decode cX8_emit 11 = .ok (.getfield 48, 3) := by decide +kernel
theorem dX8_emit_14 : decode cX8_emit 14 = .ok (.aload_n 0, 1) := by decide +kernel
theorem dX8_emit_15 : decode cX8_emit 15 = .ok (.getfield 289, 3) := by decide +kernel
theorem dX8_emit_18 : decode cX8_emit 18 = .ok (.iload_n 2, 1) := by decide +kernel
theorem dX8_emit_19 : decode cX8_emit 19 = .ok (.iastore, 1) := by decide +kernel
theorem dX8_emit_20 : decode cX8_emit 20 = .ok (.aload_n 0, 1) := by decide +kernel
theorem dX8_emit_21 : decode cX8_emit 21 = .ok (.dup, 1) := by decide +kernel
theorem dX8_emit_22 : decode cX8_emit 22 = .ok (.getfield 289, 3) := by decide +kernel
theorem dX8_emit_25 : decode cX8_emit 25 = .ok (.iconst 1, 1) := by decide +kernel
theorem dX8_emit_26 : decode cX8_emit 26 = .ok (.iadd, 1) := by decide +kernel
theorem dX8_emit_27 : decode cX8_emit 27 = .ok (.putfield 289, 3) := by decide +kernel
theorem dX8_emit_30 : decode cX8_emit 30 = .ok (.return_, 1) := by decide +kernel
theorem dX8_push_0 : decode cX8_push 0 = .ok (.aload_n 0, 1) := by decide +kernel
theorem dX8_push_1 : decode cX8_push 1 = .ok (.getfield 51, 3) := by decide +kernel
theorem dX8_push_4 : decode cX8_push 4 = .ok (.aload_n 0, 1) := by decide +kernel
theorem dX8_push_5 : decode cX8_push 5 = .ok (.getfield 292, 3) := by decide +kernel
theorem dX8_push_8 : decode cX8_push 8 = .ok (.iload_n 1, 1) := by decide +kernel
theorem dX8_push_9 : decode cX8_push 9 = .ok (.iastore, 1) := by decide +kernel
theorem dX8_push_10 : decode cX8_push 10 = .ok (.aload_n 0, 1) := by decide +kernel
theorem dX8_push_11 : decode cX8_push 11 = .ok (.getfield 54, 3) := by decide +kernel
theorem dX8_push_14 : decode cX8_push 14 = .ok (.aload_n 0, 1) := by decide +kernel
theorem dX8_push_15 : decode cX8_push 15 = .ok (.getfield 292, 3) := by decide +kernel
theorem dX8_push_18 : decode cX8_push 18 = .ok (.iload_n 2, 1) := by decide +kernel
theorem dX8_push_19 : decode cX8_push 19 = .ok (.iastore, 1) := by decide +kernel
theorem dX8_push_20 : decode cX8_push 20 = .ok (.aload_n 0, 1) := by decide +kernel
theorem dX8_push_21 : decode cX8_push 21 = .ok (.dup, 1) := by decide +kernel
theorem dX8_push_22 : decode cX8_push 22 = .ok (.getfield 292, 3) := by decide +kernel
theorem dX8_push_25 : decode cX8_push 25 = .ok (.iconst 1, 1) := by decide +kernel
theorem dX8_push_26 : decode cX8_push 26 = .ok (.iadd, 1) := by decide +kernel
theorem dX8_push_27 : decode cX8_push 27 = .ok (.putfield 292, 3) := by decide +kernel
theorem dX8_push_30 : decode cX8_push 30 = .ok (.return_, 1) := by decide +kernel
theorem dX8_binds_0 : decode cX8_binds 0 = .ok (.iload_n 0, 1) := by decide +kernel
theorem dX8_binds_1 : decode cX8_binds 1 = .ok (.bipush 31, 2) := by decide +kernel
theorem dX8_binds_3 : decode cX8_binds 3 = .ok (.if_icmp .lt 7, 3) := by decide +kernel
theorem dX8_binds_6 : decode cX8_binds 6 = .ok (.iconst 0, 1) := by decide +kernel
theorem dX8_binds_7 : decode cX8_binds 7 = .ok (.goto 55, 3) := by decide +kernel
theorem dX8_binds_10 : decode cX8_binds 10 = .ok (.iload_n 0, 1) := by decide +kernel
theorem dX8_binds_11 : decode cX8_binds 11 = .ok (.bipush 30, 2) := by decide +kernel
theorem dX8_binds_13 : decode cX8_binds 13 = .ok (.if_icmp .ne 7, 3) := by decide +kernel
theorem dX8_binds_16 : decode cX8_binds 16 = .ok (.iconst 1, 1) := by decide +kernel
theorem dX8_binds_17 : decode cX8_binds 17 = .ok (.goto 45, 3) := by decide +kernel
theorem dX8_binds_20 : decode cX8_binds 20 = .ok (.iload_n 0, 1) := by decide +kernel
theorem dX8_binds_21 : decode cX8_binds 21 = .ok (.bipush 29, 2) := by decide +kernel
theorem dX8_binds_23 : decode cX8_binds 23 = .ok (.if_icmp .ne 7, 3) := by decide +kernel
theorem dX8_binds_26 : decode cX8_binds 26 = .ok (.iconst 2, 1) := by decide +kernel
theorem dX8_binds_27 : decode cX8_binds 27 = .ok (.goto 35, 3) := by decide +kernel
theorem dX8_binds_30 : decode cX8_binds 30 = .ok (.iload_n 0, 1) := by decide +kernel
theorem dX8_binds_31 : decode cX8_binds 31 = .ok (.bipush 28, 2) := by decide +kernel
theorem dX8_binds_33 : decode cX8_binds 33 = .ok (.if_icmp .ne 7, 3) := by decide +kernel
theorem dX8_binds_36 : decode cX8_binds 36 = .ok (.iconst 3, 1) := by decide +kernel
theorem dX8_binds_37 : decode cX8_binds 37 = .ok (.goto 25, 3) := by decide +kernel
theorem dX8_binds_40 : decode cX8_binds 40 = .ok (.iload_n 0, 1) := by decide +kernel
theorem dX8_binds_41 : decode cX8_binds 41 = .ok (.bipush 25, 2) := by decide +kernel
theorem dX8_binds_43 : decode cX8_binds 43 = .ok (.if_icmp .lt 7, 3) := by decide +kernel
theorem dX8_binds_46 : decode cX8_binds 46 = .ok (.iconst 4, 1) := by decide +kernel
theorem dX8_binds_47 : decode cX8_binds 47 = .ok (.goto 15, 3) := by decide +kernel
theorem dX8_binds_50 : decode cX8_binds 50 = .ok (.iload_n 0, 1) := by decide +kernel
theorem dX8_binds_51 : decode cX8_binds 51 = .ok (.bipush 22, 2) := by decide +kernel
theorem dX8_binds_53 : decode cX8_binds 53 = .ok (.if_icmp .lt 8, 3) := by decide +kernel
theorem dX8_binds_56 : decode cX8_binds 56 = .ok (.bipush 6, 2) := by decide +kernel
theorem dX8_binds_58 : decode cX8_binds 58 = .ok (.goto 4, 3) := by decide +kernel
theorem dX8_binds_61 : decode cX8_binds 61 = .ok (.iconst 5, 1) := by decide +kernel
theorem dX8_binds_62 : decode cX8_binds 62 = .ok (.ireturn, 1) := by decide +kernel
theorem dX8_settle_0 : decode cX8_settle 0 = .ok (.aload_n 0, 1) := by decide +kernel
theorem dX8_settle_1 : decode cX8_settle 1 = .ok (.getfield 292, 3) := by decide +kernel
theorem dX8_settle_4 : decode cX8_settle 4 = .ok (.ifCond .le 97, 3) := by decide +kernel
theorem dX8_settle_7 : decode cX8_settle 7 = .ok (.aload_n 0, 1) := by decide +kernel
theorem dX8_settle_8 : decode cX8_settle 8 = .ok (.getfield 51, 3) := by decide +kernel
theorem dX8_settle_11 : decode cX8_settle 11 = .ok (.aload_n 0, 1) := by decide +kernel
theorem dX8_settle_12 : decode cX8_settle 12 = .ok (.getfield 292, 3) := by decide +kernel
theorem dX8_settle_15 : decode cX8_settle 15 = .ok (.iconst 1, 1) := by decide +kernel
theorem dX8_settle_16 : decode cX8_settle 16 = .ok (.isub, 1) := by decide +kernel
theorem dX8_settle_17 : decode cX8_settle 17 = .ok (.iaload, 1) := by decide +kernel
theorem dX8_settle_18 : decode cX8_settle 18 = .ok (.invokestatic 295, 3) := by decide +kernel
theorem dX8_settle_21 : decode cX8_settle 21 = .ok (.iload_n 1, 1) := by decide +kernel
theorem dX8_settle_22 : decode cX8_settle 22 = .ok (.if_icmp .lt 79, 3) := by decide +kernel
theorem dX8_settle_25 : decode cX8_settle 25 = .ok (.aload_n 0, 1) := by decide +kernel
theorem dX8_settle_26 : decode cX8_settle 26 = .ok (.dup, 1) := by decide +kernel
theorem dX8_settle_27 : decode cX8_settle 27 = .ok (.getfield 292, 3) := by decide +kernel
theorem dX8_settle_30 : decode cX8_settle 30 = .ok (.iconst 1, 1) := by decide +kernel
theorem dX8_settle_31 : decode cX8_settle 31 = .ok (.isub, 1) := by decide +kernel
theorem dX8_settle_32 : decode cX8_settle 32 = .ok (.putfield 292, 3) := by decide +kernel
theorem dX8_settle_35 : decode cX8_settle 35 = .ok (.aload_n 0, 1) := by decide +kernel
theorem dX8_settle_36 : decode cX8_settle 36 = .ok (.getfield 51, 3) := by decide +kernel
theorem dX8_settle_39 : decode cX8_settle 39 = .ok (.aload_n 0, 1) := by decide +kernel
theorem dX8_settle_40 : decode cX8_settle 40 = .ok (.getfield 292, 3) := by decide +kernel
theorem dX8_settle_43 : decode cX8_settle 43 = .ok (.iaload, 1) := by decide +kernel
theorem dX8_settle_44 : decode cX8_settle 44 = .ok (.bipush 29, 2) := by decide +kernel
theorem dX8_settle_46 : decode cX8_settle 46 = .ok (.if_icmp .eq 17, 3) := by decide +kernel
theorem dX8_settle_49 : decode cX8_settle 49 = .ok (.aload_n 0, 1) := by decide +kernel
theorem dX8_settle_50 : decode cX8_settle 50 = .ok (.getfield 51, 3) := by decide +kernel
theorem dX8_settle_53 : decode cX8_settle 53 = .ok (.aload_n 0, 1) := by decide +kernel
theorem dX8_settle_54 : decode cX8_settle 54 = .ok (.getfield 292, 3) := by decide +kernel
theorem dX8_settle_57 : decode cX8_settle 57 = .ok (.iaload, 1) := by decide +kernel
theorem dX8_settle_58 : decode cX8_settle 58 = .ok (.bipush 30, 2) := by decide +kernel
theorem dX8_settle_60 : decode cX8_settle 60 = .ok (.if_icmp .ne 24, 3) := by decide +kernel
theorem dX8_settle_63 : decode cX8_settle 63 = .ok (.aload_n 0, 1) := by decide +kernel
theorem dX8_settle_64 : decode cX8_settle 64 = .ok (.getfield 48, 3) := by decide +kernel
theorem dX8_settle_67 : decode cX8_settle 67 = .ok (.aload_n 0, 1) := by decide +kernel
theorem dX8_settle_68 : decode cX8_settle 68 = .ok (.getfield 54, 3) := by decide +kernel
theorem dX8_settle_71 : decode cX8_settle 71 = .ok (.aload_n 0, 1) := by decide +kernel
theorem dX8_settle_72 : decode cX8_settle 72 = .ok (.getfield 292, 3) := by decide +kernel
theorem dX8_settle_75 : decode cX8_settle 75 = .ok (.iaload, 1) := by decide +kernel
theorem dX8_settle_76 : decode cX8_settle 76 = .ok (.aload_n 0, 1) := by decide +kernel
theorem dX8_settle_77 : decode cX8_settle 77 = .ok (.getfield 289, 3) := by decide +kernel
theorem dX8_settle_80 : decode cX8_settle 80 = .ok (.iastore, 1) := by decide +kernel
theorem dX8_settle_81 : decode cX8_settle 81 = .ok (.goto (-81), 3) := by decide +kernel
theorem dX8_settle_84 : decode cX8_settle 84 = .ok (.aload_n 0, 1) := by decide +kernel
theorem dX8_settle_85 : decode cX8_settle 85 = .ok (.aload_n 0, 1) := by decide +kernel
theorem dX8_settle_86 : decode cX8_settle 86 = .ok (.getfield 51, 3) := by decide +kernel
theorem dX8_settle_89 : decode cX8_settle 89 = .ok (.aload_n 0, 1) := by decide +kernel
theorem dX8_settle_90 : decode cX8_settle 90 = .ok (.getfield 292, 3) := by decide +kernel
theorem dX8_settle_93 : decode cX8_settle 93 = .ok (.iaload, 1) := by decide +kernel
theorem dX8_settle_94 : decode cX8_settle 94 = .ok (.iconst 0, 1) := by decide +kernel
theorem dX8_settle_95 : decode cX8_settle 95 = .ok (.invokevirtual 298, 3) := by decide +kernel
theorem dX8_settle_98 : decode cX8_settle 98 = .ok (.goto (-98), 3) := by decide +kernel
theorem dX8_settle_101 : decode cX8_settle 101 = .ok (.return_, 1) := by decide +kernel
theorem dX8_inner_0 : decode cX8_inner 0 = .ok (.iconst (-1), 1) := by decide +kernel
theorem dX8_inner_1 : decode cX8_inner 1 = .ok (.istore_n 1, 1) := by decide +kernel
theorem dX8_inner_2 : decode cX8_inner 2 = .ok (.iconst 0, 1) := by decide +kernel
theorem dX8_inner_3 : decode cX8_inner 3 = .ok (.istore_n 2, 1) := by decide +kernel
theorem dX8_inner_4 : decode cX8_inner 4 = .ok (.iload_n 2, 1) := by decide +kernel
theorem dX8_inner_5 : decode cX8_inner 5 = .ok (.aload_n 0, 1) := by decide +kernel
theorem dX8_inner_6 : decode cX8_inner 6 = .ok (.getfield 292, 3) := by decide +kernel
theorem dX8_inner_9 : decode cX8_inner 9 = .ok (.if_icmp .ge 31, 3) := by decide +kernel
theorem dX8_inner_12 : decode cX8_inner 12 = .ok (.aload_n 0, 1) := by decide +kernel
theorem dX8_inner_13 : decode cX8_inner 13 = .ok (.getfield 51, 3) := by decide +kernel
theorem dX8_inner_16 : decode cX8_inner 16 = .ok (.iload_n 2, 1) := by decide +kernel
theorem dX8_inner_17 : decode cX8_inner 17 = .ok (.iaload, 1) := by decide +kernel
theorem dX8_inner_18 : decode cX8_inner 18 = .ok (.bipush 31, 2) := by decide +kernel
theorem dX8_inner_20 : decode cX8_inner 20 = .ok (.if_icmp .lt 12, 3) := by decide +kernel
theorem dX8_inner_23 : decode cX8_inner 23 = .ok (.aload_n 0, 1) := by decide +kernel
theorem dX8_inner_24 : decode cX8_inner 24 = .ok (.getfield 51, 3) := by decide +kernel
theorem dX8_inner_27 : decode cX8_inner 27 = .ok (.iload_n 2, 1) := by decide +kernel
theorem dX8_inner_28 : decode cX8_inner 28 = .ok (.iaload, 1) := by decide +kernel
theorem dX8_inner_29 : decode cX8_inner 29 = .ok (.goto 4, 3) := by decide +kernel
theorem dX8_inner_32 : decode cX8_inner 32 = .ok (.iload_n 1, 1) := by decide +kernel
theorem dX8_inner_33 : decode cX8_inner 33 = .ok (.istore_n 1, 1) := by decide +kernel
theorem dX8_inner_34 : decode cX8_inner 34 = .ok (.iinc 2 1, 3) := by decide +kernel
theorem dX8_inner_37 : decode cX8_inner 37 = .ok (.goto (-33), 3) := by decide +kernel
theorem dX8_inner_40 : decode cX8_inner 40 = .ok (.iload_n 1, 1) := by decide +kernel
theorem dX8_inner_41 : decode cX8_inner 41 = .ok (.ireturn, 1) := by decide +kernel
theorem dX8_isCompared_0 : decode cX8_isCompared 0 = .ok (.aload_n 0, 1) := by decide +kernel
theorem dX8_isCompared_1 : decode cX8_isCompared 1 = .ok (.getfield 292, 3) := by decide +kernel
theorem dX8_isCompared_4 : decode cX8_isCompared 4 = .ok (.iconst 1, 1) := by decide +kernel
theorem dX8_isCompared_5 : decode cX8_isCompared 5 = .ok (.isub, 1) := by decide +kernel
theorem dX8_isCompared_6 : decode cX8_isCompared 6 = .ok (.istore_n 1, 1) := by decide +kernel
theorem dX8_isCompared_7 : decode cX8_isCompared 7 = .ok (.iload_n 1, 1) := by decide +kernel
theorem dX8_isCompared_8 : decode cX8_isCompared 8 = .ok (.ifCond .lt 28, 3) := by decide +kernel
theorem dX8_isCompared_11 : decode cX8_isCompared 11 = .ok (.aload_n 0, 1) := by decide +kernel
theorem dX8_isCompared_12 : decode cX8_isCompared 12 = .ok (.getfield 51, 3) := by decide +kernel
theorem dX8_isCompared_15 : decode cX8_isCompared 15 = .ok (.iload_n 1, 1) := by decide +kernel
theorem dX8_isCompared_16 : decode cX8_isCompared 16 = .ok (.iaload, 1) := by decide +kernel
theorem dX8_isCompared_17 : decode cX8_isCompared 17 = .ok (.i2l, 1) := by decide +kernel
theorem dX8_isCompared_18 : decode cX8_isCompared 18 = .ok (.ldc2_w 302, 3) := by decide +kernel
theorem dX8_isCompared_21 : decode cX8_isCompared 21 = .ok (.ldc2_w 188, 3) := by decide +kernel
theorem dX8_isCompared_24 : decode cX8_isCompared 24 = .ok (.invokestatic 181, 3) := by decide +kernel
theorem dX8_isCompared_27 : decode cX8_isCompared 27 = .ok (.ifCond .eq 9, 3) := by decide +kernel
theorem dX8_isCompared_30 : decode cX8_isCompared 30 = .ok (.iinc 1 (-1), 3) := by decide +kernel
theorem dX8_isCompared_33 : decode cX8_isCompared 33 = .ok (.goto (-26), 3) := by decide +kernel
theorem dX8_isCompared_36 : decode cX8_isCompared 36 = .ok (.iload_n 1, 1) := by decide +kernel
theorem dX8_isCompared_37 : decode cX8_isCompared 37 = .ok (.ifCond .lt 26, 3) := by decide +kernel
theorem dX8_isCompared_40 : decode cX8_isCompared 40 = .ok (.aload_n 0, 1) := by decide +kernel
theorem dX8_isCompared_41 : decode cX8_isCompared 41 = .ok (.getfield 51, 3) := by decide +kernel
theorem dX8_isCompared_44 : decode cX8_isCompared 44 = .ok (.iload_n 1, 1) := by decide +kernel
theorem dX8_isCompared_45 : decode cX8_isCompared 45 = .ok (.iaload, 1) := by decide +kernel
theorem dX8_isCompared_46 : decode cX8_isCompared 46 = .ok (.i2l, 1) := by decide +kernel
theorem dX8_isCompared_47 : decode cX8_isCompared 47 = .ok (.ldc2_w 304, 3) := by decide +kernel
theorem dX8_isCompared_50 : decode cX8_isCompared 50 = .ok (.ldc2_w 306, 3) := by decide +kernel
theorem dX8_isCompared_53 : decode cX8_isCompared 53 = .ok (.invokestatic 181, 3) := by decide +kernel
theorem dX8_isCompared_56 : decode cX8_isCompared 56 = .ok (.ifCond .eq 7, 3) := by decide +kernel
theorem dX8_isCompared_59 : decode cX8_isCompared 59 = .ok (.iconst 1, 1) := by decide +kernel
theorem dX8_isCompared_60 : decode cX8_isCompared 60 = .ok (.goto 4, 3) := by decide +kernel
theorem dX8_isCompared_63 : decode cX8_isCompared 63 = .ok (.iconst 0, 1) := by decide +kernel
theorem dX8_isCompared_64 : decode cX8_isCompared 64 = .ok (.ireturn, 1) := by decide +kernel
theorem dX8_partAt_0 : decode cX8_partAt 0 = .ok (.iconst (-1), 1) := by decide +kernel
theorem dX8_partAt_1 : decode cX8_partAt 1 = .ok (.istore_n 1, 1) := by decide +kernel
theorem dX8_partAt_2 : decode cX8_partAt 2 = .ok (.iconst 0, 1) := by decide +kernel
theorem dX8_partAt_3 : decode cX8_partAt 3 = .ok (.istore_n 2, 1) := by decide +kernel
theorem dX8_partAt_4 : decode cX8_partAt 4 = .ok (.iload_n 2, 1) := by decide +kernel
theorem dX8_partAt_5 : decode cX8_partAt 5 = .ok (.bipush 11, 2) := by decide +kernel
theorem dX8_partAt_7 : decode cX8_partAt 7 = .ok (.if_icmp .ge 30, 3) := by decide +kernel
theorem dX8_partAt_10 : decode cX8_partAt 10 = .ok (.aload_n 0, 1) := by decide +kernel
theorem dX8_partAt_11 : decode cX8_partAt 11 = .ok (.aload_n 0, 1) := by decide +kernel
theorem dX8_partAt_12 : decode cX8_partAt 12 = .ok (.getfield 79, 3) := by decide +kernel
theorem dX8_partAt_15 : decode cX8_partAt 15 = .ok (.iload_n 2, 1) := by decide +kernel
theorem dX8_partAt_16 : decode cX8_partAt 16 = .ok (.laload, 1) := by decide +kernel
theorem dX8_partAt_17 : decode cX8_partAt 17 = .ok (.invokevirtual 308, 3) := by decide +kernel
theorem dX8_partAt_20 : decode cX8_partAt 20 = .ok (.ifCond .eq 9, 3) := by decide +kernel
theorem dX8_partAt_23 : decode cX8_partAt 23 = .ok (.iload_n 2, 1) := by decide +kernel
theorem dX8_partAt_24 : decode cX8_partAt 24 = .ok (.iconst 1, 1) := by decide +kernel
theorem dX8_partAt_25 : decode cX8_partAt 25 = .ok (.iadd, 1) := by decide +kernel
theorem dX8_partAt_26 : decode cX8_partAt 26 = .ok (.goto 4, 3) := by decide +kernel
theorem dX8_partAt_29 : decode cX8_partAt 29 = .ok (.iload_n 1, 1) := by decide +kernel
theorem dX8_partAt_30 : decode cX8_partAt 30 = .ok (.istore_n 1, 1) := by decide +kernel
theorem dX8_partAt_31 : decode cX8_partAt 31 = .ok (.iinc 2 1, 3) := by decide +kernel
theorem dX8_partAt_34 : decode cX8_partAt 34 = .ok (.goto (-30), 3) := by decide +kernel
theorem dX8_partAt_37 : decode cX8_partAt 37 = .ok (.iload_n 1, 1) := by decide +kernel
theorem dX8_partAt_38 : decode cX8_partAt 38 = .ok (.ireturn, 1) := by decide +kernel
theorem dX8_orderPartAt_0 : decode cX8_orderPartAt 0 = .ok (.iconst (-1), 1) := by decide +kernel
theorem dX8_orderPartAt_1 : decode cX8_orderPartAt 1 = .ok (.istore_n 1, 1) := by decide +kernel
theorem dX8_orderPartAt_2 : decode cX8_orderPartAt 2 = .ok (.iconst 0, 1) := by decide +kernel
theorem dX8_orderPartAt_3 : decode cX8_orderPartAt 3 = .ok (.istore_n 2, 1) := by decide +kernel
theorem dX8_orderPartAt_4 : decode cX8_orderPartAt 4 = .ok (.iload_n 2, 1) := by decide +kernel
theorem dX8_orderPartAt_5 : decode cX8_orderPartAt 5 = .ok (.bipush 7, 2) := by decide +kernel
theorem dX8_orderPartAt_7 : decode cX8_orderPartAt 7 = .ok (.if_icmp .ge 30, 3) := by decide +kernel
theorem dX8_orderPartAt_10 : decode cX8_orderPartAt 10 = .ok (.aload_n 0, 1) := by decide +kernel
theorem dX8_orderPartAt_11 : decode cX8_orderPartAt 11 = .ok (.aload_n 0, 1) := by decide +kernel
theorem dX8_orderPartAt_12 : decode cX8_orderPartAt 12 = .ok (.getfield 91, 3) := by decide +kernel
theorem dX8_orderPartAt_15 : decode cX8_orderPartAt 15 = .ok (.iload_n 2, 1) := by decide +kernel
theorem dX8_orderPartAt_16 : decode cX8_orderPartAt 16 = .ok (.laload, 1) := by decide +kernel
theorem dX8_orderPartAt_17 : decode cX8_orderPartAt 17 = .ok (.invokevirtual 308, 3) := by decide +kernel
theorem dX8_orderPartAt_20 : decode cX8_orderPartAt 20 = .ok (.ifCond .eq 9, 3) := by decide +kernel
theorem dX8_orderPartAt_23 : decode cX8_orderPartAt 23 = .ok (.iload_n 2, 1) := by decide +kernel
theorem dX8_orderPartAt_24 : decode cX8_orderPartAt 24 = .ok (.iconst 1, 1) := by decide +kernel
theorem dX8_orderPartAt_25 : decode cX8_orderPartAt 25 = .ok (.iadd, 1) := by decide +kernel
theorem dX8_orderPartAt_26 : decode cX8_orderPartAt 26 = .ok (.goto 4, 3) := by decide +kernel
theorem dX8_orderPartAt_29 : decode cX8_orderPartAt 29 = .ok (.iload_n 1, 1) := by decide +kernel
theorem dX8_orderPartAt_30 : decode cX8_orderPartAt 30 = .ok (.istore_n 1, 1) := by decide +kernel
theorem dX8_orderPartAt_31 : decode cX8_orderPartAt 31 = .ok (.iinc 2 1, 3) := by decide +kernel
theorem dX8_orderPartAt_34 : decode cX8_orderPartAt 34 = .ok (.goto (-30), 3) := by decide +kernel
theorem dX8_orderPartAt_37 : decode cX8_orderPartAt 37 = .ok (.iload_n 1, 1) := by decide +kernel
theorem dX8_orderPartAt_38 : decode cX8_orderPartAt 38 = .ok (.ireturn, 1) := by decide +kernel
theorem dX8_openBracket_0 : decode cX8_openBracket 0 = .ok (.aload_n 0, 1) := by decide +kernel
theorem dX8_openBracket_1 : decode cX8_openBracket 1 = .ok (.aload_n 0, 1) := by decide +kernel
theorem dX8_openBracket_2 : decode cX8_openBracket 2 = .ok (.getfield 312, 3) := by decide +kernel
theorem dX8_openBracket_5 : decode cX8_openBracket 5 = .ok (.bipush 8, 2) := by decide +kernel
theorem dX8_openBracket_7 : decode cX8_openBracket 7 = .ok (.if_icmp .ge 7, 3) := by decide +kernel
theorem dX8_openBracket_10 : decode cX8_openBracket 10 = .ok (.iconst 1, 1) := by decide +kernel
theorem dX8_openBracket_11 : decode cX8_openBracket 11 = .ok (.goto 4, 3) := by decide +kernel
theorem dX8_openBracket_14 : decode cX8_openBracket 14 = .ok (.iconst 0, 1) := by decide +kernel
theorem dX8_openBracket_15 : decode cX8_openBracket 15 = .ok (.invokevirtual 285, 3) := by decide +kernel
theorem dX8_openBracket_18 : decode cX8_openBracket 18 = .ok (.aload_n 0, 1) := by decide +kernel
theorem dX8_openBracket_19 : decode cX8_openBracket 19 = .ok (.getfield 250, 3) := by decide +kernel
theorem dX8_openBracket_22 : decode cX8_openBracket 22 = .ok (.ifCond .ne 19, 3) := by decide +kernel
theorem dX8_openBracket_25 : decode cX8_openBracket 25 = .ok (.aload_n 0, 1) := by decide +kernel
theorem dX8_openBracket_26 : decode cX8_openBracket 26 = .ok (.dup, 1) := by decide +kernel
theorem dX8_openBracket_27 : decode cX8_openBracket 27 = .ok (.getfield 312, 3) := by decide +kernel
theorem dX8_openBracket_30 : decode cX8_openBracket 30 = .ok (.iconst 1, 1) := by decide +kernel
theorem dX8_openBracket_31 : decode cX8_openBracket 31 = .ok (.iadd, 1) := by decide +kernel
theorem dX8_openBracket_32 : decode cX8_openBracket 32 = .ok (.putfield 312, 3) := by decide +kernel
theorem dX8_openBracket_35 : decode cX8_openBracket 35 = .ok (.aload_n 0, 1) := by decide +kernel
theorem dX8_openBracket_36 : decode cX8_openBracket 36 = .ok (.iload_n 1, 1) := by decide +kernel
theorem dX8_openBracket_37 : decode cX8_openBracket 37 = .ok (.iconst 0, 1) := by decide +kernel
theorem dX8_openBracket_38 : decode cX8_openBracket 38 = .ok (.invokevirtual 315, 3) := by decide +kernel
theorem dX8_openBracket_41 : decode cX8_openBracket 41 = .ok (.return_, 1) := by decide +kernel
theorem dX8_leaf_0 : decode cX8_leaf 0 = .ok (.aload_n 0, 1) := by decide +kernel
theorem dX8_leaf_1 : decode cX8_leaf 1 = .ok (.iload_n 1, 1) := by decide +kernel
theorem dX8_leaf_2 : decode cX8_leaf 2 = .ok (.ifCond .eq 16, 3) := by decide +kernel
theorem dX8_leaf_5 : decode cX8_leaf 5 = .ok (.aload_n 0, 1) := by decide +kernel
theorem dX8_leaf_6 : decode cX8_leaf 6 = .ok (.getfield 318, 3) := by decide +kernel
theorem dX8_leaf_9 : decode cX8_leaf 9 = .ok (.bipush 50, 2) := by decide +kernel
theorem dX8_leaf_11 : decode cX8_leaf 11 = .ok (.if_icmp .ge 7, 3) := by decide +kernel
theorem dX8_leaf_14 : decode cX8_leaf 14 = .ok (.iconst 1, 1) := by decide +kernel
theorem dX8_leaf_15 : decode cX8_leaf 15 = .ok (.goto 4, 3) := by decide +kernel
theorem dX8_leaf_18 : decode cX8_leaf 18 = .ok (.iconst 0, 1) := by decide +kernel
theorem dX8_leaf_19 : decode cX8_leaf 19 = .ok (.invokevirtual 285, 3) := by decide +kernel
theorem dX8_leaf_22 : decode cX8_leaf 22 = .ok (.aload_n 0, 1) := by decide +kernel
theorem dX8_leaf_23 : decode cX8_leaf 23 = .ok (.getfield 250, 3) := by decide +kernel
theorem dX8_leaf_26 : decode cX8_leaf 26 = .ok (.ifCond .ne 19, 3) := by decide +kernel
theorem dX8_leaf_29 : decode cX8_leaf 29 = .ok (.aload_n 0, 1) := by decide +kernel
theorem dX8_leaf_30 : decode cX8_leaf 30 = .ok (.iload_n 2, 1) := by decide +kernel
theorem dX8_leaf_31 : decode cX8_leaf 31 = .ok (.iload_n 3, 1) := by decide +kernel
theorem dX8_leaf_32 : decode cX8_leaf 32 = .ok (.invokevirtual 298, 3) := by decide +kernel
theorem dX8_leaf_35 : decode cX8_leaf 35 = .ok (.aload_n 0, 1) := by decide +kernel
theorem dX8_leaf_36 : decode cX8_leaf 36 = .ok (.dup, 1) := by decide +kernel
theorem dX8_leaf_37 : decode cX8_leaf 37 = .ok (.getfield 318, 3) := by decide +kernel
theorem dX8_leaf_40 : decode cX8_leaf 40 = .ok (.iconst 1, 1) := by decide +kernel
theorem dX8_leaf_41 : decode cX8_leaf 41 = .ok (.iadd, 1) := by decide +kernel
theorem dX8_leaf_42 : decode cX8_leaf 42 = .ok (.putfield 318, 3) := by decide +kernel
theorem dX8_leaf_45 : decode cX8_leaf 45 = .ok (.return_, 1) := by decide +kernel
theorem dX8_readPart_0 : decode cX8_readPart 0 = .ok (.aload_n 0, 1) := by decide +kernel
theorem dX8_readPart_1 : decode cX8_readPart 1 = .ok (.bipush 91, 2) := by decide +kernel
theorem dX8_readPart_3 : decode cX8_readPart 3 = .ok (.invokevirtual 321, 3) := by decide +kernel
theorem dX8_readPart_6 : decode cX8_readPart 6 = .ok (.ifCond .eq 11, 3) := by decide +kernel
theorem dX8_readPart_9 : decode cX8_readPart 9 = .ok (.aload_n 0, 1) := by decide +kernel
theorem dX8_readPart_10 : decode cX8_readPart 10 = .ok (.bipush 32, 2) := by decide +kernel
theorem dX8_readPart_12 : decode cX8_readPart 12 = .ok (.invokevirtual 324, 3) := by decide +kernel
theorem dX8_readPart_15 : decode cX8_readPart 15 = .ok (.iconst 1, 1) := by decide +kernel
theorem dX8_readPart_16 : decode cX8_readPart 16 = .ok (.ireturn, 1) := by decide +kernel
theorem dX8_readPart_17 : decode cX8_readPart 17 = .ok (.aload_n 0, 1) := by decide +kernel
theorem dX8_readPart_18 : decode cX8_readPart 18 = .ok (.getfield 327, 3) := by decide +kernel
theorem dX8_readPart_21 : decode cX8_readPart 21 = .ok (.ifCond .eq 10, 3) := by decide +kernel
theorem dX8_readPart_24 : decode cX8_readPart 24 = .ok (.aload_n 0, 1) := by decide +kernel
theorem dX8_readPart_25 : decode cX8_readPart 25 = .ok (.invokevirtual 330, 3) := by decide +kernel
theorem dX8_readPart_28 : decode cX8_readPart 28 = .ok (.goto 7, 3) := by decide +kernel
theorem dX8_readPart_31 : decode cX8_readPart 31 = .ok (.aload_n 0, 1) := by decide +kernel
theorem dX8_readPart_32 : decode cX8_readPart 32 = .ok (.invokevirtual 334, 3) := by decide +kernel
theorem dX8_readPart_35 : decode cX8_readPart 35 = .ok (.istore_n 1, 1) := by decide +kernel
theorem dX8_readPart_36 : decode cX8_readPart 36 = .ok (.aload_n 0, 1) := by decide +kernel
theorem dX8_readPart_37 : decode cX8_readPart 37 = .ok (.getfield 270, 3) := by decide +kernel
theorem dX8_readPart_40 : decode cX8_readPart 40 = .ok (.iconst 2, 1) := by decide +kernel
theorem dX8_readPart_41 : decode cX8_readPart 41 = .ok (.if_icmp .ne 18, 3) := by decide +kernel
theorem dX8_readPart_44 : decode cX8_readPart 44 = .ok (.aload_n 0, 1) := by decide +kernel
theorem dX8_readPart_45 : decode cX8_readPart 45 = .ok (.getfield 260, 3) := by decide +kernel
theorem dX8_readPart_48 : decode cX8_readPart 48 = .ok (.ldc2_w 337, 3) := by decide +kernel
theorem dX8_readPart_51 : decode cX8_readPart 51 = .ok (.lcmp, 1) := by decide +kernel
theorem dX8_readPart_52 : decode cX8_readPart 52 = .ok (.ifCond .gt 7, 3) := by decide +kernel
theorem dX8_readPart_55 : decode cX8_readPart 55 = .ok (.iconst 1, 1) := by decide +kernel
theorem dX8_readPart_56 : decode cX8_readPart 56 = .ok (.goto 4, 3) := by decide +kernel
theorem dX8_readPart_59 : decode cX8_readPart 59 = .ok (.iconst 0, 1) := by decide +kernel
theorem dX8_readPart_60 : decode cX8_readPart 60 = .ok (.istore_n 2, 1) := by decide +kernel
theorem dX8_readPart_61 : decode cX8_readPart 61 = .ok (.aload_n 0, 1) := by decide +kernel
theorem dX8_readPart_62 : decode cX8_readPart 62 = .ok (.iload_n 1, 1) := by decide +kernel
theorem dX8_readPart_63 : decode cX8_readPart 63 = .ok (.iconst (-1), 1) := by decide +kernel
theorem dX8_readPart_64 : decode cX8_readPart 64 = .ok (.if_icmp .ne 7, 3) := by decide +kernel
theorem dX8_readPart_67 : decode cX8_readPart 67 = .ok (.iload_n 2, 1) := by decide +kernel
theorem dX8_readPart_68 : decode cX8_readPart 68 = .ok (.ifCond .eq 7, 3) := by decide +kernel
theorem dX8_readPart_71 : decode cX8_readPart 71 = .ok (.iconst 1, 1) := by decide +kernel
theorem dX8_readPart_72 : decode cX8_readPart 72 = .ok (.goto 4, 3) := by decide +kernel
theorem dX8_readPart_75 : decode cX8_readPart 75 = .ok (.iconst 0, 1) := by decide +kernel
theorem dX8_readPart_76 : decode cX8_readPart 76 = .ok (.iload_n 1, 1) := by decide +kernel
theorem dX8_readPart_77 : decode cX8_readPart 77 = .ok (.iconst (-1), 1) := by decide +kernel
theorem dX8_readPart_78 : decode cX8_readPart 78 = .ok (.if_icmp .ne 7, 3) := by decide +kernel
theorem dX8_readPart_81 : decode cX8_readPart 81 = .ok (.iconst 0, 1) := by decide +kernel
theorem dX8_readPart_82 : decode cX8_readPart 82 = .ok (.goto 4, 3) := by decide +kernel
theorem dX8_readPart_85 : decode cX8_readPart 85 = .ok (.iload_n 1, 1) := by decide +kernel
theorem dX8_readPart_86 : decode cX8_readPart 86 = .ok (.iload_n 2, 1) := by decide +kernel
theorem dX8_readPart_87 : decode cX8_readPart 87 = .ok (.ifCond .eq 11, 3) := by decide +kernel
theorem dX8_readPart_90 : decode cX8_readPart 90 = .ok (.aload_n 0, 1) := by decide +kernel
theorem dX8_readPart_91 : decode cX8_readPart 91 = .ok (.getfield 260, 3) := by decide +kernel
theorem dX8_readPart_94 : decode cX8_readPart 94 = .ok (.l2i, 1) := by decide +kernel
theorem dX8_readPart_95 : decode cX8_readPart 95 = .ok (.goto 4, 3) := by decide +kernel
theorem dX8_readPart_98 : decode cX8_readPart 98 = .ok (.iconst 0, 1) := by decide +kernel
theorem dX8_readPart_99 : decode cX8_readPart 99 = .ok (.invokevirtual 339, 3) := by decide +kernel
theorem dX8_readPart_102 : decode cX8_readPart 102 = .ok (.aload_n 0, 1) := by decide +kernel
theorem dX8_readPart_103 : decode cX8_readPart 103 = .ok (.getfield 327, 3) := by decide +kernel
theorem dX8_readPart_106 : decode cX8_readPart 106 = .ok (.ifCond .eq 36, 3) := by decide +kernel
theorem dX8_readPart_109 : decode cX8_readPart 109 = .ok (.iload_n 1, 1) := by decide +kernel
theorem dX8_readPart_110 : decode cX8_readPart 110 = .ok (.iconst 5, 1) := by decide +kernel
theorem dX8_readPart_111 : decode cX8_readPart 111 = .ok (.if_icmp .lt 31, 3) := by decide +kernel
theorem dX8_readPart_114 : decode cX8_readPart 114 = .ok (.aload_n 0, 1) := by decide +kernel
theorem dX8_readPart_115 : decode cX8_readPart 115 = .ok (.getfield 250, 3) := by decide +kernel
theorem dX8_readPart_118 : decode cX8_readPart 118 = .ok (.ifCond .ne 24, 3) := by decide +kernel
theorem dX8_readPart_121 : decode cX8_readPart 121 = .ok (.aload_n 0, 1) := by decide +kernel
theorem dX8_readPart_122 : decode cX8_readPart 122 = .ok (.getfield 289, 3) := by decide +kernel
theorem dX8_readPart_125 : decode cX8_readPart 125 = .ok (.iconst 1, 1) := by decide +kernel
theorem dX8_readPart_126 : decode cX8_readPart 126 = .ok (.isub, 1) := by decide +kernel
theorem dX8_readPart_127 : decode cX8_readPart 127 = .ok (.istore_n 3, 1) := by decide +kernel
theorem dX8_readPart_128 : decode cX8_readPart 128 = .ok (.aload_n 0, 1) := by decide +kernel
theorem dX8_readPart_129 : decode cX8_readPart 129 = .ok (.getfield 48, 3) := by decide +kernel
theorem dX8_readPart_132 : decode cX8_readPart 132 = .ok (.iload_n 3, 1) := by decide +kernel
theorem dX8_readPart_133 : decode cX8_readPart 133 = .ok (.aload_n 0, 1) := by decide +kernel
theorem dX8_readPart_134 : decode cX8_readPart 134 = .ok (.lconst 0, 1) := by decide +kernel
theorem dX8_readPart_135 : decode cX8_readPart 135 = .ok (.ldc2_w 343, 3) := by decide +kernel
theorem dX8_readPart_138 : decode cX8_readPart 138 = .ok (.invokevirtual 345, 3) := by decide +kernel
theorem dX8_readPart_141 : decode cX8_readPart 141 = .ok (.iastore, 1) := by decide +kernel
theorem dX8_readPart_142 : decode cX8_readPart 142 = .ok (.iconst 3, 1) := by decide +kernel
theorem dX8_readPart_143 : decode cX8_readPart 143 = .ok (.ireturn, 1) := by decide +kernel
theorem dX8_readPlain_0 : decode cX8_readPlain 0 = .ok (.aload_n 0, 1) := by decide +kernel
theorem dX8_readPlain_1 : decode cX8_readPlain 1 = .ok (.ldc2_w 349, 3) := by decide +kernel
theorem dX8_readPlain_4 : decode cX8_readPlain 4 = .ok (.invokevirtual 308, 3) := by decide +kernel
theorem dX8_readPlain_7 : decode cX8_readPlain 7 = .ok (.ifCond .eq 16, 3) := by decide +kernel
theorem dX8_readPlain_10 : decode cX8_readPlain 10 = .ok (.aload_n 0, 1) := by decide +kernel
theorem dX8_readPlain_11 : decode cX8_readPlain 11 = .ok (.bipush 28, 2) := by decide +kernel
theorem dX8_readPlain_13 : decode cX8_readPlain 13 = .ok (.iconst 0, 1) := by decide +kernel
theorem dX8_readPlain_14 : decode cX8_readPlain 14 = .ok (.invokevirtual 315, 3) := by decide +kernel
theorem dX8_readPlain_17 : decode cX8_readPlain 17 = .ok (.aload_n 0, 1) := by decide +kernel
theorem dX8_readPlain_18 : decode cX8_readPlain 18 = .ok (.invokevirtual 254, 3) := by decide +kernel
theorem dX8_readPlain_21 : decode cX8_readPlain 21 = .ok (.iconst 0, 1) := by decide +kernel
theorem dX8_readPlain_22 : decode cX8_readPlain 22 = .ok (.ireturn, 1) := by decide +kernel
theorem dX8_readPlain_23 : decode cX8_readPlain 23 = .ok (.aload_n 0, 1) := by decide +kernel
theorem dX8_readPlain_24 : decode cX8_readPlain 24 = .ok (.bipush 40, 2) := by decide +kernel
theorem dX8_readPlain_26 : decode cX8_readPlain 26 = .ok (.invokevirtual 321, 3) := by decide +kernel
theorem dX8_readPlain_29 : decode cX8_readPlain 29 = .ok (.ifCond .eq 11, 3) := by decide +kernel
theorem dX8_readPlain_32 : decode cX8_readPlain 32 = .ok (.aload_n 0, 1) := by decide +kernel
theorem dX8_readPlain_33 : decode cX8_readPlain 33 = .ok (.bipush 31, 2) := by decide +kernel
theorem dX8_readPlain_35 : decode cX8_readPlain 35 = .ok (.invokevirtual 324, 3) := by decide +kernel
theorem dX8_readPlain_38 : decode cX8_readPlain 38 = .ok (.iconst 0, 1) := by decide +kernel
theorem dX8_readPlain_39 : decode cX8_readPlain 39 = .ok (.ireturn, 1) := by decide +kernel
theorem dX8_readPlain_40 : decode cX8_readPlain 40 = .ok (.aload_n 0, 1) := by decide +kernel
theorem dX8_readPlain_41 : decode cX8_readPlain 41 = .ok (.invokevirtual 351, 3) := by decide +kernel
theorem dX8_readPlain_44 : decode cX8_readPlain 44 = .ok (.ireturn, 1) := by decide +kernel
theorem dX8_behindSum_0 : decode cX8_behindSum 0 = .ok (.aload_n 0, 1) := by decide +kernel
theorem dX8_behindSum_1 : decode cX8_behindSum 1 = .ok (.bipush 43, 2) := by decide +kernel
theorem dX8_behindSum_3 : decode cX8_behindSum 3 = .ok (.invokevirtual 321, 3) := by decide +kernel
theorem dX8_behindSum_6 : decode cX8_behindSum 6 = .ok (.ifCond .eq 8, 3) := by decide +kernel
theorem dX8_behindSum_9 : decode cX8_behindSum 9 = .ok (.bipush 20, 2) := by decide +kernel
theorem dX8_behindSum_11 : decode cX8_behindSum 11 = .ok (.goto 60, 3) := by decide +kernel
theorem dX8_behindSum_14 : decode cX8_behindSum 14 = .ok (.aload_n 0, 1) := by decide +kernel
theorem dX8_behindSum_15 : decode cX8_behindSum 15 = .ok (.bipush 45, 2) := by decide +kernel
theorem dX8_behindSum_17 : decode cX8_behindSum 17 = .ok (.invokevirtual 321, 3) := by decide +kernel
theorem dX8_behindSum_20 : decode cX8_behindSum 20 = .ok (.ifCond .eq 8, 3) := by decide +kernel
theorem dX8_behindSum_23 : decode cX8_behindSum 23 = .ok (.bipush 21, 2) := by decide +kernel
theorem dX8_behindSum_25 : decode cX8_behindSum 25 = .ok (.goto 46, 3) := by decide +kernel
theorem dX8_behindSum_28 : decode cX8_behindSum 28 = .ok (.aload_n 0, 1) := by decide +kernel
theorem dX8_behindSum_29 : decode cX8_behindSum 29 = .ok (.bipush 42, 2) := by decide +kernel
theorem dX8_behindSum_31 : decode cX8_behindSum 31 = .ok (.invokevirtual 321, 3) := by decide +kernel
theorem dX8_behindSum_34 : decode cX8_behindSum 34 = .ok (.ifCond .eq 8, 3) := by decide +kernel
theorem dX8_behindSum_37 : decode cX8_behindSum 37 = .ok (.bipush 22, 2) := by decide +kernel
theorem dX8_behindSum_39 : decode cX8_behindSum 39 = .ok (.goto 32, 3) := by decide +kernel
theorem dX8_behindSum_42 : decode cX8_behindSum 42 = .ok (.aload_n 0, 1) := by decide +kernel
theorem dX8_behindSum_43 : decode cX8_behindSum 43 = .ok (.bipush 47, 2) := by decide +kernel
theorem dX8_behindSum_45 : decode cX8_behindSum 45 = .ok (.invokevirtual 321, 3) := by decide +kernel
theorem dX8_behindSum_48 : decode cX8_behindSum 48 = .ok (.ifCond .eq 8, 3) := by decide +kernel
theorem dX8_behindSum_51 : decode cX8_behindSum 51 = .ok (.bipush 23, 2) := by decide +kernel
theorem dX8_behindSum_53 : decode cX8_behindSum 53 = .ok (.goto 18, 3) := by decide +kernel
theorem dX8_behindSum_56 : decode cX8_behindSum 56 = .ok (.aload_n 0, 1) := by decide +kernel
theorem dX8_behindSum_57 : decode cX8_behindSum 57 = .ok (.bipush 37, 2) := by decide +kernel
theorem dX8_behindSum_59 : decode cX8_behindSum 59 = .ok (.invokevirtual 321, 3) := by decide +kernel
theorem dX8_behindSum_62 : decode cX8_behindSum 62 = .ok (.ifCond .eq 8, 3) := by decide +kernel
theorem dX8_behindSum_65 : decode cX8_behindSum 65 = .ok (.bipush 24, 2) := by decide +kernel
theorem dX8_behindSum_67 : decode cX8_behindSum 67 = .ok (.goto 4, 3) := by decide +kernel
theorem dX8_behindSum_70 : decode cX8_behindSum 70 = .ok (.iconst (-1), 1) := by decide +kernel
theorem dX8_behindSum_71 : decode cX8_behindSum 71 = .ok (.istore_n 2, 1) := by decide +kernel
theorem dX8_behindSum_72 : decode cX8_behindSum 72 = .ok (.iload_n 2, 1) := by decide +kernel
theorem dX8_behindSum_73 : decode cX8_behindSum 73 = .ok (.iconst (-1), 1) := by decide +kernel
theorem dX8_behindSum_74 : decode cX8_behindSum 74 = .ok (.if_icmp .eq 23, 3) := by decide +kernel
theorem dX8_behindSum_77 : decode cX8_behindSum 77 = .ok (.aload_n 0, 1) := by decide +kernel
theorem dX8_behindSum_78 : decode cX8_behindSum 78 = .ok (.iload_n 2, 1) := by decide +kernel
theorem dX8_behindSum_79 : decode cX8_behindSum 79 = .ok (.invokestatic 295, 3) := by decide +kernel
theorem dX8_behindSum_82 : decode cX8_behindSum 82 = .ok (.invokevirtual 354, 3) := by decide +kernel
theorem dX8_behindSum_85 : decode cX8_behindSum 85 = .ok (.aload_n 0, 1) := by decide +kernel
theorem dX8_behindSum_86 : decode cX8_behindSum 86 = .ok (.iload_n 2, 1) := by decide +kernel
theorem dX8_behindSum_87 : decode cX8_behindSum 87 = .ok (.iconst 0, 1) := by decide +kernel
theorem dX8_behindSum_88 : decode cX8_behindSum 88 = .ok (.invokevirtual 315, 3) := by decide +kernel
theorem dX8_behindSum_91 : decode cX8_behindSum 91 = .ok (.aload_n 0, 1) := by decide +kernel
theorem dX8_behindSum_92 : decode cX8_behindSum 92 = .ok (.invokevirtual 254, 3) := by decide +kernel
theorem dX8_behindSum_95 : decode cX8_behindSum 95 = .ok (.iconst 1, 1) := by decide +kernel
theorem dX8_behindSum_96 : decode cX8_behindSum 96 = .ok (.ireturn, 1) := by decide +kernel
theorem dX8_behindSum_97 : decode cX8_behindSum 97 = .ok (.aload_n 0, 1) := by decide +kernel
theorem dX8_behindSum_98 : decode cX8_behindSum 98 = .ok (.invokevirtual 357, 3) := by decide +kernel
theorem dX8_behindSum_101 : decode cX8_behindSum 101 = .ok (.istore_n 3, 1) := by decide +kernel
theorem dX8_behindSum_102 : decode cX8_behindSum 102 = .ok (.iload_n 3, 1) := by decide +kernel
theorem dX8_behindSum_103 : decode cX8_behindSum 103 = .ok (.bipush 32, 2) := by decide +kernel
theorem dX8_behindSum_105 : decode cX8_behindSum 105 = .ok (.if_icmp .ne 47, 3) := by decide +kernel
theorem dX8_behindSum_108 : decode cX8_behindSum 108 = .ok (.aload_n 0, 1) := by decide +kernel
theorem dX8_behindSum_109 : decode cX8_behindSum 109 = .ok (.aload_n 0, 1) := by decide +kernel
theorem dX8_behindSum_110 : decode cX8_behindSum 110 = .ok (.bipush 93, 2) := by decide +kernel
theorem dX8_behindSum_112 : decode cX8_behindSum 112 = .ok (.invokevirtual 321, 3) := by decide +kernel
theorem dX8_behindSum_115 : decode cX8_behindSum 115 = .ok (.invokevirtual 285, 3) := by decide +kernel
theorem dX8_behindSum_118 : decode cX8_behindSum 118 = .ok (.aload_n 0, 1) := by decide +kernel
theorem dX8_behindSum_119 : decode cX8_behindSum 119 = .ok (.getfield 250, 3) := by decide +kernel
theorem dX8_behindSum_122 : decode cX8_behindSum 122 = .ok (.ifCond .ne 28, 3) := by decide +kernel
theorem dX8_behindSum_125 : decode cX8_behindSum 125 = .ok (.aload_n 0, 1) := by decide +kernel
theorem dX8_behindSum_126 : decode cX8_behindSum 126 = .ok (.iconst 5, 1) := by decide +kernel
theorem dX8_behindSum_127 : decode cX8_behindSum 127 = .ok (.invokevirtual 354, 3) := by decide +kernel
theorem dX8_behindSum_130 : decode cX8_behindSum 130 = .ok (.aload_n 0, 1) := by decide +kernel
theorem dX8_behindSum_131 : decode cX8_behindSum 131 = .ok (.dup, 1) := by decide +kernel
theorem dX8_behindSum_132 : decode cX8_behindSum 132 = .ok (.getfield 292, 3) := by decide +kernel
theorem dX8_behindSum_135 : decode cX8_behindSum 135 = .ok (.iconst 1, 1) := by decide +kernel
theorem dX8_behindSum_136 : decode cX8_behindSum 136 = .ok (.isub, 1) := by decide +kernel
theorem dX8_behindSum_137 : decode cX8_behindSum 137 = .ok (.putfield 292, 3) := by decide +kernel
theorem dX8_behindSum_140 : decode cX8_behindSum 140 = .ok (.aload_n 0, 1) := by decide +kernel
theorem dX8_behindSum_141 : decode cX8_behindSum 141 = .ok (.dup, 1) := by decide +kernel
theorem dX8_behindSum_142 : decode cX8_behindSum 142 = .ok (.getfield 312, 3) := by decide +kernel
theorem dX8_behindSum_145 : decode cX8_behindSum 145 = .ok (.iconst 1, 1) := by decide +kernel
theorem dX8_behindSum_146 : decode cX8_behindSum 146 = .ok (.isub, 1) := by decide +kernel
theorem dX8_behindSum_147 : decode cX8_behindSum 147 = .ok (.putfield 312, 3) := by decide +kernel
theorem dX8_behindSum_150 : decode cX8_behindSum 150 = .ok (.iconst 3, 1) := by decide +kernel
theorem dX8_behindSum_151 : decode cX8_behindSum 151 = .ok (.ireturn, 1) := by decide +kernel
theorem dX8_behindSum_152 : decode cX8_behindSum 152 = .ok (.iload_n 3, 1) := by decide +kernel
theorem dX8_behindSum_153 : decode cX8_behindSum 153 = .ok (.iconst (-1), 1) := by decide +kernel
theorem dX8_behindSum_154 : decode cX8_behindSum 154 = .ok (.if_icmp .ne 9, 3) := by decide +kernel
theorem dX8_behindSum_157 : decode cX8_behindSum 157 = .ok (.iload_n 1, 1) := by decide +kernel
theorem dX8_behindSum_158 : decode cX8_behindSum 158 = .ok (.ifCond .ne 5, 3) := by decide +kernel
theorem dX8_behindSum_161 : decode cX8_behindSum 161 = .ok (.iconst 4, 1) := by decide +kernel
theorem dX8_behindSum_162 : decode cX8_behindSum 162 = .ok (.ireturn, 1) := by decide +kernel
theorem dX8_behindSum_163 : decode cX8_behindSum 163 = .ok (.aload_n 0, 1) := by decide +kernel
theorem dX8_behindSum_164 : decode cX8_behindSum 164 = .ok (.invokevirtual 360, 3) := by decide +kernel
theorem dX8_behindSum_167 : decode cX8_behindSum 167 = .ok (.ifCond .eq 5, 3) := by decide +kernel
theorem dX8_behindSum_170 : decode cX8_behindSum 170 = .ok (.iconst 2, 1) := by decide +kernel
theorem dX8_behindSum_171 : decode cX8_behindSum 171 = .ok (.ireturn, 1) := by decide +kernel
theorem dX8_behindSum_172 : decode cX8_behindSum 172 = .ok (.aload_n 0, 1) := by decide +kernel
theorem dX8_behindSum_173 : decode cX8_behindSum 173 = .ok (.bipush 60, 2) := by decide +kernel
theorem dX8_behindSum_175 : decode cX8_behindSum 175 = .ok (.invokevirtual 321, 3) := by decide +kernel
theorem dX8_behindSum_178 : decode cX8_behindSum 178 = .ok (.ifCond .eq 8, 3) := by decide +kernel
theorem dX8_behindSum_181 : decode cX8_behindSum 181 = .ok (.bipush 25, 2) := by decide +kernel
theorem dX8_behindSum_183 : decode cX8_behindSum 183 = .ok (.goto 19, 3) := by decide +kernel
theorem dX8_behindSum_186 : decode cX8_behindSum 186 = .ok (.aload_n 0, 1) := by decide +kernel
theorem dX8_behindSum_187 : decode cX8_behindSum 187 = .ok (.bipush 62, 2) := by decide +kernel
theorem dX8_behindSum_189 : decode cX8_behindSum 189 = .ok (.invokevirtual 321, 3) := by decide +kernel
theorem dX8_behindSum_192 : decode cX8_behindSum 192 = .ok (.ifCond .eq 8, 3) := by decide +kernel
theorem dX8_behindSum_195 : decode cX8_behindSum 195 = .ok (.bipush 26, 2) := by decide +kernel
theorem dX8_behindSum_197 : decode cX8_behindSum 197 = .ok (.goto 5, 3) := by decide +kernel
theorem dX8_behindSum_200 : decode cX8_behindSum 200 = .ok (.bipush 27, 2) := by decide +kernel
theorem dX8_behindSum_202 : decode cX8_behindSum 202 = .ok (.istore_n 2, 1) := by decide +kernel
theorem dX8_behindSum_203 : decode cX8_behindSum 203 = .ok (.aload_n 0, 1) := by decide +kernel
theorem dX8_behindSum_204 : decode cX8_behindSum 204 = .ok (.iload_n 2, 1) := by decide +kernel
theorem dX8_behindSum_205 : decode cX8_behindSum 205 = .ok (.bipush 27, 2) := by decide +kernel
theorem dX8_behindSum_207 : decode cX8_behindSum 207 = .ok (.if_icmp .ne 12, 3) := by decide +kernel
theorem dX8_behindSum_210 : decode cX8_behindSum 210 = .ok (.aload_n 0, 1) := by decide +kernel
theorem dX8_behindSum_211 : decode cX8_behindSum 211 = .ok (.bipush 61, 2) := by decide +kernel
theorem dX8_behindSum_213 : decode cX8_behindSum 213 = .ok (.invokevirtual 321, 3) := by decide +kernel
theorem dX8_behindSum_216 : decode cX8_behindSum 216 = .ok (.ifCond .eq 7, 3) := by decide +kernel
theorem dX8_behindSum_219 : decode cX8_behindSum 219 = .ok (.iconst 1, 1) := by decide +kernel
theorem dX8_behindSum_220 : decode cX8_behindSum 220 = .ok (.goto 4, 3) := by decide +kernel
theorem dX8_behindSum_223 : decode cX8_behindSum 223 = .ok (.iconst 0, 1) := by decide +kernel
theorem dX8_behindSum_224 : decode cX8_behindSum 224 = .ok (.invokevirtual 285, 3) := by decide +kernel
theorem dX8_behindSum_227 : decode cX8_behindSum 227 = .ok (.aload_n 0, 1) := by decide +kernel
theorem dX8_behindSum_228 : decode cX8_behindSum 228 = .ok (.getfield 250, 3) := by decide +kernel
theorem dX8_behindSum_231 : decode cX8_behindSum 231 = .ok (.ifCond .ne 14, 3) := by decide +kernel
theorem dX8_behindSum_234 : decode cX8_behindSum 234 = .ok (.aload_n 0, 1) := by decide +kernel
theorem dX8_behindSum_235 : decode cX8_behindSum 235 = .ok (.iconst 5, 1) := by decide +kernel
theorem dX8_behindSum_236 : decode cX8_behindSum 236 = .ok (.invokevirtual 354, 3) := by decide +kernel
theorem dX8_behindSum_239 : decode cX8_behindSum 239 = .ok (.aload_n 0, 1) := by decide +kernel
theorem dX8_behindSum_240 : decode cX8_behindSum 240 = .ok (.iload_n 2, 1) := by decide +kernel
theorem dX8_behindSum_241 : decode cX8_behindSum 241 = .ok (.iconst 0, 1) := by decide +kernel
theorem dX8_behindSum_242 : decode cX8_behindSum 242 = .ok (.invokevirtual 315, 3) := by decide +kernel
theorem dX8_behindSum_245 : decode cX8_behindSum 245 = .ok (.iconst 1, 1) := by decide +kernel
theorem dX8_behindSum_246 : decode cX8_behindSum 246 = .ok (.ireturn, 1) := by decide +kernel
theorem dX8_behindTest_0 : decode cX8_behindTest 0 = .ok (.aload_n 0, 1) := by decide +kernel
theorem dX8_behindTest_1 : decode cX8_behindTest 1 = .ok (.ldc2_w 364, 3) := by decide +kernel
theorem dX8_behindTest_4 : decode cX8_behindTest 4 = .ok (.invokevirtual 308, 3) := by decide +kernel
theorem dX8_behindTest_7 : decode cX8_behindTest 7 = .ok (.istore_n 1, 1) := by decide +kernel
theorem dX8_behindTest_8 : decode cX8_behindTest 8 = .ok (.iload_n 1, 1) := by decide +kernel
theorem dX8_behindTest_9 : decode cX8_behindTest 9 = .ok (.ifCond .ne 13, 3) := by decide +kernel
theorem dX8_behindTest_12 : decode cX8_behindTest 12 = .ok (.aload_n 0, 1) := by decide +kernel
theorem dX8_behindTest_13 : decode cX8_behindTest 13 = .ok (.ldc2_w 366, 3) := by decide +kernel
theorem dX8_behindTest_16 : decode cX8_behindTest 16 = .ok (.invokevirtual 308, 3) := by decide +kernel
theorem dX8_behindTest_19 : decode cX8_behindTest 19 = .ok (.ifCond .eq 57, 3) := by decide +kernel
theorem dX8_behindTest_22 : decode cX8_behindTest 22 = .ok (.aload_n 0, 1) := by decide +kernel
theorem dX8_behindTest_23 : decode cX8_behindTest 23 = .ok (.iload_n 1, 1) := by decide +kernel
theorem dX8_behindTest_24 : decode cX8_behindTest 24 = .ok (.ifCond .eq 7, 3) := by decide +kernel
theorem dX8_behindTest_27 : decode cX8_behindTest 27 = .ok (.iconst 2, 1) := by decide +kernel
theorem dX8_behindTest_28 : decode cX8_behindTest 28 = .ok (.goto 4, 3) := by decide +kernel
theorem dX8_behindTest_31 : decode cX8_behindTest 31 = .ok (.iconst 1, 1) := by decide +kernel
theorem dX8_behindTest_32 : decode cX8_behindTest 32 = .ok (.invokevirtual 354, 3) := by decide +kernel
theorem dX8_behindTest_35 : decode cX8_behindTest 35 = .ok (.aload_n 0, 1) := by decide +kernel
theorem dX8_behindTest_36 : decode cX8_behindTest 36 = .ok (.iload_n 1, 1) := by decide +kernel
theorem dX8_behindTest_37 : decode cX8_behindTest 37 = .ok (.ifCond .eq 8, 3) := by decide +kernel
theorem dX8_behindTest_40 : decode cX8_behindTest 40 = .ok (.bipush 29, 2) := by decide +kernel
theorem dX8_behindTest_42 : decode cX8_behindTest 42 = .ok (.goto 5, 3) := by decide +kernel
theorem dX8_behindTest_45 : decode cX8_behindTest 45 = .ok (.bipush 30, 2) := by decide +kernel
theorem dX8_behindTest_47 : decode cX8_behindTest 47 = .ok (.aload_n 0, 1) := by decide +kernel
theorem dX8_behindTest_48 : decode cX8_behindTest 48 = .ok (.getfield 289, 3) := by decide +kernel
theorem dX8_behindTest_51 : decode cX8_behindTest 51 = .ok (.invokevirtual 315, 3) := by decide +kernel
theorem dX8_behindTest_54 : decode cX8_behindTest 54 = .ok (.aload_n 0, 1) := by decide +kernel
theorem dX8_behindTest_55 : decode cX8_behindTest 55 = .ok (.iload_n 1, 1) := by decide +kernel
theorem dX8_behindTest_56 : decode cX8_behindTest 56 = .ok (.ifCond .eq 8, 3) := by decide +kernel
theorem dX8_behindTest_59 : decode cX8_behindTest 59 = .ok (.bipush 29, 2) := by decide +kernel
theorem dX8_behindTest_61 : decode cX8_behindTest 61 = .ok (.goto 5, 3) := by decide +kernel
theorem dX8_behindTest_64 : decode cX8_behindTest 64 = .ok (.bipush 30, 2) := by decide +kernel
theorem dX8_behindTest_66 : decode cX8_behindTest 66 = .ok (.iconst 0, 1) := by decide +kernel
theorem dX8_behindTest_67 : decode cX8_behindTest 67 = .ok (.invokevirtual 298, 3) := by decide +kernel
theorem dX8_behindTest_70 : decode cX8_behindTest 70 = .ok (.aload_n 0, 1) := by decide +kernel
theorem dX8_behindTest_71 : decode cX8_behindTest 71 = .ok (.invokevirtual 254, 3) := by decide +kernel
theorem dX8_behindTest_74 : decode cX8_behindTest 74 = .ok (.iconst 0, 1) := by decide +kernel
theorem dX8_behindTest_75 : decode cX8_behindTest 75 = .ok (.ireturn, 1) := by decide +kernel
theorem dX8_behindTest_76 : decode cX8_behindTest 76 = .ok (.aload_n 0, 1) := by decide +kernel
theorem dX8_behindTest_77 : decode cX8_behindTest 77 = .ok (.invokevirtual 357, 3) := by decide +kernel
theorem dX8_behindTest_80 : decode cX8_behindTest 80 = .ok (.iconst (-1), 1) := by decide +kernel
theorem dX8_behindTest_81 : decode cX8_behindTest 81 = .ok (.if_icmp .ne 5, 3) := by decide +kernel
theorem dX8_behindTest_84 : decode cX8_behindTest 84 = .ok (.iconst 4, 1) := by decide +kernel
theorem dX8_behindTest_85 : decode cX8_behindTest 85 = .ok (.ireturn, 1) := by decide +kernel
theorem dX8_behindTest_86 : decode cX8_behindTest 86 = .ok (.aload_n 0, 1) := by decide +kernel
theorem dX8_behindTest_87 : decode cX8_behindTest 87 = .ok (.aload_n 0, 1) := by decide +kernel
theorem dX8_behindTest_88 : decode cX8_behindTest 88 = .ok (.bipush 41, 2) := by decide +kernel
theorem dX8_behindTest_90 : decode cX8_behindTest 90 = .ok (.invokevirtual 321, 3) := by decide +kernel
theorem dX8_behindTest_93 : decode cX8_behindTest 93 = .ok (.invokevirtual 285, 3) := by decide +kernel
theorem dX8_behindTest_96 : decode cX8_behindTest 96 = .ok (.aload_n 0, 1) := by decide +kernel
theorem dX8_behindTest_97 : decode cX8_behindTest 97 = .ok (.getfield 250, 3) := by decide +kernel
theorem dX8_behindTest_100 : decode cX8_behindTest 100 = .ok (.ifCond .ne 28, 3) := by decide +kernel
theorem dX8_behindTest_103 : decode cX8_behindTest 103 = .ok (.aload_n 0, 1) := by decide +kernel
theorem dX8_behindTest_104 : decode cX8_behindTest 104 = .ok (.iconst 1, 1) := by decide +kernel
theorem dX8_behindTest_105 : decode cX8_behindTest 105 = .ok (.invokevirtual 354, 3) := by decide +kernel
theorem dX8_behindTest_108 : decode cX8_behindTest 108 = .ok (.aload_n 0, 1) := by decide +kernel
theorem dX8_behindTest_109 : decode cX8_behindTest 109 = .ok (.dup, 1) := by decide +kernel
theorem dX8_behindTest_110 : decode cX8_behindTest 110 = .ok (.getfield 292, 3) := by decide +kernel
theorem dX8_behindTest_113 : decode cX8_behindTest 113 = .ok (.iconst 1, 1) := by decide +kernel
theorem dX8_behindTest_114 : decode cX8_behindTest 114 = .ok (.isub, 1) := by decide +kernel
theorem dX8_behindTest_115 : decode cX8_behindTest 115 = .ok (.putfield 292, 3) := by decide +kernel
theorem dX8_behindTest_118 : decode cX8_behindTest 118 = .ok (.aload_n 0, 1) := by decide +kernel
theorem dX8_behindTest_119 : decode cX8_behindTest 119 = .ok (.dup, 1) := by decide +kernel
theorem dX8_behindTest_120 : decode cX8_behindTest 120 = .ok (.getfield 312, 3) := by decide +kernel
theorem dX8_behindTest_123 : decode cX8_behindTest 123 = .ok (.iconst 1, 1) := by decide +kernel
theorem dX8_behindTest_124 : decode cX8_behindTest 124 = .ok (.isub, 1) := by decide +kernel
theorem dX8_behindTest_125 : decode cX8_behindTest 125 = .ok (.putfield 312, 3) := by decide +kernel
theorem dX8_behindTest_128 : decode cX8_behindTest 128 = .ok (.iconst 2, 1) := by decide +kernel
theorem dX8_behindTest_129 : decode cX8_behindTest 129 = .ok (.ireturn, 1) := by decide +kernel
theorem dX8_readExpression_0 : decode cX8_readExpression 0 = .ok (.aload_n 0, 1) := by decide +kernel
theorem dX8_readExpression_1 : decode cX8_readExpression 1 = .ok (.iconst 0, 1) := by decide +kernel
theorem dX8_readExpression_2 : decode cX8_readExpression 2 = .ok (.putfield 292, 3) := by decide +kernel
theorem dX8_readExpression_5 : decode cX8_readExpression 5 = .ok (.aload_n 0, 1) := by decide +kernel
theorem dX8_readExpression_6 : decode cX8_readExpression 6 = .ok (.iconst 0, 1) := by decide +kernel
theorem dX8_readExpression_7 : decode cX8_readExpression 7 = .ok (.putfield 312, 3) := by decide +kernel
theorem dX8_readExpression_10 : decode cX8_readExpression 10 = .ok (.iload_n 1, 1) := by decide +kernel
theorem dX8_readExpression_11 : decode cX8_readExpression 11 = .ok (.ifCond .eq 7, 3) := by decide +kernel
theorem dX8_readExpression_14 : decode cX8_readExpression 14 = .ok (.iconst 0, 1) := by decide +kernel
theorem dX8_readExpression_15 : decode cX8_readExpression 15 = .ok (.goto 4, 3) := by decide +kernel
theorem dX8_readExpression_18 : decode cX8_readExpression 18 = .ok (.iconst 1, 1) := by decide +kernel
theorem dX8_readExpression_19 : decode cX8_readExpression 19 = .ok (.istore_n 2, 1) := by decide +kernel
theorem dX8_readExpression_20 : decode cX8_readExpression 20 = .ok (.aload_n 0, 1) := by decide +kernel
theorem dX8_readExpression_21 : decode cX8_readExpression 21 = .ok (.getfield 250, 3) := by decide +kernel
theorem dX8_readExpression_24 : decode cX8_readExpression 24 = .ok (.ifCond .ne 52, 3) := by decide +kernel
theorem dX8_readExpression_27 : decode cX8_readExpression 27 = .ok (.iload_n 2, 1) := by decide +kernel
theorem dX8_readExpression_28 : decode cX8_readExpression 28 = .ok (.iconst 4, 1) := by decide +kernel
theorem dX8_readExpression_29 : decode cX8_readExpression 29 = .ok (.if_icmp .eq 47, 3) := by decide +kernel
theorem dX8_readExpression_32 : decode cX8_readExpression 32 = .ok (.iload_n 2, 1) := by decide +kernel
theorem dX8_readExpression_33 : decode cX8_readExpression 33 = .ok (.ifCond .ne 10, 3) := by decide +kernel
theorem dX8_readExpression_36 : decode cX8_readExpression 36 = .ok (.aload_n 0, 1) := by decide +kernel
theorem dX8_readExpression_37 : decode cX8_readExpression 37 = .ok (.invokevirtual 368, 3) := by decide +kernel
theorem dX8_readExpression_40 : decode cX8_readExpression 40 = .ok (.goto 32, 3) := by decide +kernel
theorem dX8_readExpression_43 : decode cX8_readExpression 43 = .ok (.iload_n 2, 1) := by decide +kernel
theorem dX8_readExpression_44 : decode cX8_readExpression 44 = .ok (.iconst 1, 1) := by decide +kernel
theorem dX8_readExpression_45 : decode cX8_readExpression 45 = .ok (.if_icmp .ne 10, 3) := by decide +kernel
theorem dX8_readExpression_48 : decode cX8_readExpression 48 = .ok (.aload_n 0, 1) := by decide +kernel
theorem dX8_readExpression_49 : decode cX8_readExpression 49 = .ok (.invokevirtual 351, 3) := by decide +kernel
theorem dX8_readExpression_52 : decode cX8_readExpression 52 = .ok (.goto 20, 3) := by decide +kernel
theorem dX8_readExpression_55 : decode cX8_readExpression 55 = .ok (.iload_n 2, 1) := by decide +kernel
theorem dX8_readExpression_56 : decode cX8_readExpression 56 = .ok (.iconst 3, 1) := by decide +kernel
theorem dX8_readExpression_57 : decode cX8_readExpression 57 = .ok (.if_icmp .ne 11, 3) := by decide +kernel
theorem dX8_readExpression_60 : decode cX8_readExpression 60 = .ok (.aload_n 0, 1) := by decide +kernel
theorem dX8_readExpression_61 : decode cX8_readExpression 61 = .ok (.iload_n 1, 1) := by decide +kernel
theorem dX8_readExpression_62 : decode cX8_readExpression 62 = .ok (.invokevirtual 371, 3) := by decide +kernel
theorem dX8_readExpression_65 : decode cX8_readExpression 65 = .ok (.goto 7, 3) := by decide +kernel
theorem dX8_readExpression_68 : decode cX8_readExpression 68 = .ok (.aload_n 0, 1) := by decide +kernel
theorem dX8_readExpression_69 : decode cX8_readExpression 69 = .ok (.invokevirtual 375, 3) := by decide +kernel
theorem dX8_readExpression_72 : decode cX8_readExpression 72 = .ok (.istore_n 2, 1) := by decide +kernel
theorem dX8_readExpression_73 : decode cX8_readExpression 73 = .ok (.goto (-53), 3) := by decide +kernel
theorem dX8_readExpression_76 : decode cX8_readExpression 76 = .ok (.aload_n 0, 1) := by decide +kernel
theorem dX8_readExpression_77 : decode cX8_readExpression 77 = .ok (.iconst 1, 1) := by decide +kernel
theorem dX8_readExpression_78 : decode cX8_readExpression 78 = .ok (.invokevirtual 354, 3) := by decide +kernel
theorem dX8_readExpression_81 : decode cX8_readExpression 81 = .ok (.return_, 1) := by decide +kernel
theorem dX8_beginText_0 : decode cX8_beginText 0 = .ok (.aload_n 0, 1) := by decide +kernel
theorem dX8_beginText_1 : decode cX8_beginText 1 = .ok (.iload_n 1, 1) := by decide +kernel
theorem dX8_beginText_2 : decode cX8_beginText 2 = .ok (.putfield 327, 3) := by decide +kernel
theorem dX8_beginText_5 : decode cX8_beginText 5 = .ok (.aload_n 0, 1) := by decide +kernel
theorem dX8_beginText_6 : decode cX8_beginText 6 = .ok (.invokevirtual 378, 3) := by decide +kernel
theorem dX8_beginText_9 : decode cX8_beginText 9 = .ok (.aload_n 0, 1) := by decide +kernel
theorem dX8_beginText_10 : decode cX8_beginText 10 = .ok (.iconst 0, 1) := by decide +kernel
theorem dX8_beginText_11 : decode cX8_beginText 11 = .ok (.putfield 381, 3) := by decide +kernel
theorem dX8_beginText_14 : decode cX8_beginText 14 = .ok (.aload_n 0, 1) := by decide +kernel
theorem dX8_beginText_15 : decode cX8_beginText 15 = .ok (.iconst 0, 1) := by decide +kernel
theorem dX8_beginText_16 : decode cX8_beginText 16 = .ok (.putfield 289, 3) := by decide +kernel
theorem dX8_beginText_19 : decode cX8_beginText 19 = .ok (.aload_n 0, 1) := by decide +kernel
theorem dX8_beginText_20 : decode cX8_beginText 20 = .ok (.iconst 0, 1) := by decide +kernel
theorem dX8_beginText_21 : decode cX8_beginText 21 = .ok (.putfield 318, 3) := by decide +kernel
theorem dX8_beginText_24 : decode cX8_beginText 24 = .ok (.return_, 1) := by decide +kernel
theorem dX8_endText_0 : decode cX8_endText 0 = .ok (.aload_n 0, 1) := by decide +kernel
theorem dX8_endText_1 : decode cX8_endText 1 = .ok (.getfield 250, 3) := by decide +kernel
theorem dX8_endText_4 : decode cX8_endText 4 = .ok (.ifCond .ne 15, 3) := by decide +kernel
theorem dX8_endText_7 : decode cX8_endText 7 = .ok (.aload_n 0, 1) := by decide +kernel
theorem dX8_endText_8 : decode cX8_endText 8 = .ok (.getfield 270, 3) := by decide +kernel
theorem dX8_endText_11 : decode cX8_endText 11 = .ok (.ifCond .eq 8, 3) := by decide +kernel
theorem dX8_endText_14 : decode cX8_endText 14 = .ok (.aload_n 0, 1) := by decide +kernel
theorem dX8_endText_15 : decode cX8_endText 15 = .ok (.iconst 0, 1) := by decide +kernel
theorem dX8_endText_16 : decode cX8_endText 16 = .ok (.invokevirtual 285, 3) := by decide +kernel
theorem dX8_endText_19 : decode cX8_endText 19 = .ok (.aload_n 0, 1) := by decide +kernel
theorem dX8_endText_20 : decode cX8_endText 20 = .ok (.iconst 0, 1) := by decide +kernel
theorem dX8_endText_21 : decode cX8_endText 21 = .ok (.putfield 327, 3) := by decide +kernel
theorem dX8_endText_24 : decode cX8_endText 24 = .ok (.aload_n 0, 1) := by decide +kernel
theorem dX8_endText_25 : decode cX8_endText 25 = .ok (.iconst 0, 1) := by decide +kernel
theorem dX8_endText_26 : decode cX8_endText 26 = .ok (.putfield 238, 3) := by decide +kernel
theorem dX8_endText_29 : decode cX8_endText 29 = .ok (.return_, 1) := by decide +kernel
theorem dX8_readLaw_0 : decode cX8_readLaw 0 = .ok (.iconst (-1), 1) := by decide +kernel
theorem dX8_readLaw_1 : decode cX8_readLaw 1 = .ok (.istore_n 1, 1) := by decide +kernel
theorem dX8_readLaw_2 : decode cX8_readLaw 2 = .ok (.iconst 0, 1) := by decide +kernel
theorem dX8_readLaw_3 : decode cX8_readLaw 3 = .ok (.istore_n 2, 1) := by decide +kernel
theorem dX8_readLaw_4 : decode cX8_readLaw 4 = .ok (.iload_n 2, 1) := by decide +kernel
theorem dX8_readLaw_5 : decode cX8_readLaw 5 = .ok (.iconst 4, 1) := by decide +kernel
theorem dX8_readLaw_6 : decode cX8_readLaw 6 = .ok (.if_icmp .ge 28, 3) := by decide +kernel
theorem dX8_readLaw_9 : decode cX8_readLaw 9 = .ok (.aload_n 0, 1) := by decide +kernel
theorem dX8_readLaw_10 : decode cX8_readLaw 10 = .ok (.aload_n 0, 1) := by decide +kernel
theorem dX8_readLaw_11 : decode cX8_readLaw 11 = .ok (.getfield 102, 3) := by decide +kernel
theorem dX8_readLaw_14 : decode cX8_readLaw 14 = .ok (.iload_n 2, 1) := by decide +kernel
theorem dX8_readLaw_15 : decode cX8_readLaw 15 = .ok (.laload, 1) := by decide +kernel
theorem dX8_readLaw_16 : decode cX8_readLaw 16 = .ok (.invokevirtual 308, 3) := by decide +kernel
theorem dX8_readLaw_19 : decode cX8_readLaw 19 = .ok (.ifCond .eq 7, 3) := by decide +kernel
theorem dX8_readLaw_22 : decode cX8_readLaw 22 = .ok (.iload_n 2, 1) := by decide +kernel
theorem dX8_readLaw_23 : decode cX8_readLaw 23 = .ok (.goto 4, 3) := by decide +kernel
theorem dX8_readLaw_26 : decode cX8_readLaw 26 = .ok (.iload_n 1, 1) := by decide +kernel
theorem dX8_readLaw_27 : decode cX8_readLaw 27 = .ok (.istore_n 1, 1) := by decide +kernel
theorem dX8_readLaw_28 : decode cX8_readLaw 28 = .ok (.iinc 2 1, 3) := by decide +kernel
theorem dX8_readLaw_31 : decode cX8_readLaw 31 = .ok (.goto (-27), 3) := by decide +kernel
theorem dX8_readLaw_34 : decode cX8_readLaw 34 = .ok (.aload_n 0, 1) := by decide +kernel
theorem dX8_readLaw_35 : decode cX8_readLaw 35 = .ok (.iload_n 1, 1) := by decide +kernel
theorem dX8_readLaw_36 : decode cX8_readLaw 36 = .ok (.iconst (-1), 1) := by decide +kernel
theorem dX8_readLaw_37 : decode cX8_readLaw 37 = .ok (.if_icmp .eq 16, 3) := by decide +kernel
theorem dX8_readLaw_40 : decode cX8_readLaw 40 = .ok (.aload_n 0, 1) := by decide +kernel
theorem dX8_readLaw_41 : decode cX8_readLaw 41 = .ok (.getfield 381, 3) := by decide +kernel
theorem dX8_readLaw_44 : decode cX8_readLaw 44 = .ok (.bipush 12, 2) := by decide +kernel
theorem dX8_readLaw_46 : decode cX8_readLaw 46 = .ok (.if_icmp .ge 7, 3) := by decide +kernel
theorem dX8_readLaw_49 : decode cX8_readLaw 49 = .ok (.iconst 1, 1) := by decide +kernel
theorem dX8_readLaw_50 : decode cX8_readLaw 50 = .ok (.goto 4, 3) := by decide +kernel
theorem dX8_readLaw_53 : decode cX8_readLaw 53 = .ok (.iconst 0, 1) := by decide +kernel
theorem dX8_readLaw_54 : decode cX8_readLaw 54 = .ok (.invokevirtual 285, 3) := by decide +kernel
theorem dX8_readLaw_57 : decode cX8_readLaw 57 = .ok (.aload_n 0, 1) := by decide +kernel
theorem dX8_readLaw_58 : decode cX8_readLaw 58 = .ok (.getfield 250, 3) := by decide +kernel
theorem dX8_readLaw_61 : decode cX8_readLaw 61 = .ok (.ifCond .eq 4, 3) := by decide +kernel
theorem dX8_readLaw_64 : decode cX8_readLaw 64 = .ok (.return_, 1) := by decide +kernel
theorem dX8_readLaw_65 : decode cX8_readLaw 65 = .ok (.bipush 8, 2) := by decide +kernel
theorem dX8_readLaw_67 : decode cX8_readLaw 67 = .ok (.aload_n 0, 1) := by decide +kernel
theorem dX8_readLaw_68 : decode cX8_readLaw 68 = .ok (.getfield 381, 3) := by decide +kernel
theorem dX8_readLaw_71 : decode cX8_readLaw 71 = .ok (.imul, 1) := by decide +kernel
theorem dX8_readLaw_72 : decode cX8_readLaw 72 = .ok (.istore_n 2, 1) := by decide +kernel
theorem dX8_readLaw_73 : decode cX8_readLaw 73 = .ok (.iconst 0, 1) := by decide +kernel
theorem dX8_readLaw_74 : decode cX8_readLaw 74 = .ok (.istore_n 3, 1) := by decide +kernel
theorem dX8_readLaw_75 : decode cX8_readLaw 75 = .ok (.iload_n 3, 1) := by decide +kernel
theorem dX8_readLaw_76 : decode cX8_readLaw 76 = .ok (.bipush 8, 2) := by decide +kernel
theorem dX8_readLaw_78 : decode cX8_readLaw 78 = .ok (.if_icmp .ge 18, 3) := by decide +kernel
theorem dX8_readLaw_81 : decode cX8_readLaw 81 = .ok (.aload_n 0, 1) := by decide +kernel
theorem dX8_readLaw_82 : decode cX8_readLaw 82 = .ok (.getfield 42, 3) := by decide +kernel
theorem dX8_readLaw_85 : decode cX8_readLaw 85 = .ok (.iload_n 2, 1) := by decide +kernel
theorem dX8_readLaw_86 : decode cX8_readLaw 86 = .ok (.iload_n 3, 1) := by decide +kernel
theorem dX8_readLaw_87 : decode cX8_readLaw 87 = .ok (.iadd, 1) := by decide +kernel
theorem dX8_readLaw_88 : decode cX8_readLaw 88 = .ok (.iconst 0, 1) := by decide +kernel
theorem dX8_readLaw_89 : decode cX8_readLaw 89 = .ok (.iastore, 1) := by decide +kernel
theorem dX8_readLaw_90 : decode cX8_readLaw 90 = .ok (.iinc 3 1, 3) := by decide +kernel
theorem dX8_readLaw_93 : decode cX8_readLaw 93 = .ok (.goto (-18), 3) := by decide +kernel
theorem dX8_readLaw_96 : decode cX8_readLaw 96 = .ok (.aload_n 0, 1) := by decide +kernel
theorem dX8_readLaw_97 : decode cX8_readLaw 97 = .ok (.getfield 42, 3) := by decide +kernel
theorem dX8_readLaw_100 : decode cX8_readLaw 100 = .ok (.iload_n 2, 1) := by decide +kernel
theorem dX8_readLaw_101 : decode cX8_readLaw 101 = .ok (.iload_n 1, 1) := by decide +kernel
theorem dX8_readLaw_102 : decode cX8_readLaw 102 = .ok (.iastore, 1) := by decide +kernel
theorem dX8_readLaw_103 : decode cX8_readLaw 103 = .ok (.aload_n 0, 1) := by decide +kernel
theorem dX8_readLaw_104 : decode cX8_readLaw 104 = .ok (.dup, 1) := by decide +kernel
theorem dX8_readLaw_105 : decode cX8_readLaw 105 = .ok (.getfield 381, 3) := by decide +kernel
theorem dX8_readLaw_108 : decode cX8_readLaw 108 = .ok (.iconst 1, 1) := by decide +kernel
theorem dX8_readLaw_109 : decode cX8_readLaw 109 = .ok (.iadd, 1) := by decide +kernel
theorem dX8_readLaw_110 : decode cX8_readLaw 110 = .ok (.putfield 381, 3) := by decide +kernel
theorem dX8_readLaw_113 : decode cX8_readLaw 113 = .ok (.aload_n 0, 1) := by decide +kernel
theorem dX8_readLaw_114 : decode cX8_readLaw 114 = .ok (.getfield 42, 3) := by decide +kernel
theorem dX8_readLaw_117 : decode cX8_readLaw 117 = .ok (.iload_n 2, 1) := by decide +kernel
theorem dX8_readLaw_118 : decode cX8_readLaw 118 = .ok (.iconst 3, 1) := by decide +kernel
theorem dX8_readLaw_119 : decode cX8_readLaw 119 = .ok (.iadd, 1) := by decide +kernel
theorem dX8_readLaw_120 : decode cX8_readLaw 120 = .ok (.aload_n 0, 1) := by decide +kernel
theorem dX8_readLaw_121 : decode cX8_readLaw 121 = .ok (.getfield 289, 3) := by decide +kernel
theorem dX8_readLaw_124 : decode cX8_readLaw 124 = .ok (.iastore, 1) := by decide +kernel
theorem dX8_readLaw_125 : decode cX8_readLaw 125 = .ok (.iload_n 1, 1) := by decide +kernel
theorem dX8_readLaw_126 : decode cX8_readLaw 126 = .ok (.iconst 2, 1) := by decide +kernel
theorem dX8_readLaw_127 : decode cX8_readLaw 127 = .ok (.if_icmp .ge 8, 3) := by decide +kernel
theorem dX8_readLaw_130 : decode cX8_readLaw 130 = .ok (.aload_n 0, 1) := by decide +kernel
theorem dX8_readLaw_131 : decode cX8_readLaw 131 = .ok (.iconst 0, 1) := by decide +kernel
theorem dX8_readLaw_132 : decode cX8_readLaw 132 = .ok (.invokevirtual 384, 3) := by decide +kernel
theorem dX8_readLaw_135 : decode cX8_readLaw 135 = .ok (.aload_n 0, 1) := by decide +kernel
theorem dX8_readLaw_136 : decode cX8_readLaw 136 = .ok (.getfield 42, 3) := by decide +kernel
theorem dX8_readLaw_139 : decode cX8_readLaw 139 = .ok (.iload_n 2, 1) := by decide +kernel
theorem dX8_readLaw_140 : decode cX8_readLaw 140 = .ok (.iconst 4, 1) := by decide +kernel
theorem dX8_readLaw_141 : decode cX8_readLaw 141 = .ok (.iadd, 1) := by decide +kernel
theorem dX8_readLaw_142 : decode cX8_readLaw 142 = .ok (.aload_n 0, 1) := by decide +kernel
theorem dX8_readLaw_143 : decode cX8_readLaw 143 = .ok (.getfield 289, 3) := by decide +kernel
theorem dX8_readLaw_146 : decode cX8_readLaw 146 = .ok (.iastore, 1) := by decide +kernel
theorem dX8_readLaw_147 : decode cX8_readLaw 147 = .ok (.aload_n 0, 1) := by decide +kernel
theorem dX8_readLaw_148 : decode cX8_readLaw 148 = .ok (.getfield 42, 3) := by decide +kernel
theorem dX8_readLaw_151 : decode cX8_readLaw 151 = .ok (.iload_n 2, 1) := by decide +kernel
theorem dX8_readLaw_152 : decode cX8_readLaw 152 = .ok (.iconst 5, 1) := by decide +kernel
theorem dX8_readLaw_153 : decode cX8_readLaw 153 = .ok (.iadd, 1) := by decide +kernel
theorem dX8_readLaw_154 : decode cX8_readLaw 154 = .ok (.aload_n 0, 1) := by decide +kernel
theorem dX8_readLaw_155 : decode cX8_readLaw 155 = .ok (.getfield 289, 3) := by decide +kernel
theorem dX8_readLaw_158 : decode cX8_readLaw 158 = .ok (.iastore, 1) := by decide +kernel
theorem dX8_readLaw_159 : decode cX8_readLaw 159 = .ok (.aload_n 0, 1) := by decide +kernel
theorem dX8_readLaw_160 : decode cX8_readLaw 160 = .ok (.getfield 250, 3) := by decide +kernel
theorem dX8_readLaw_163 : decode cX8_readLaw 163 = .ok (.ifCond .ne 22, 3) := by decide +kernel
theorem dX8_readLaw_166 : decode cX8_readLaw 166 = .ok (.aload_n 0, 1) := by decide +kernel
theorem dX8_readLaw_167 : decode cX8_readLaw 167 = .ok (.ldc2_w 387, 3) := by decide +kernel
theorem dX8_readLaw_170 : decode cX8_readLaw 170 = .ok (.invokevirtual 308, 3) := by decide +kernel
theorem dX8_readLaw_173 : decode cX8_readLaw 173 = .ok (.ifCond .eq 12, 3) := by decide +kernel
theorem dX8_readLaw_176 : decode cX8_readLaw 176 = .ok (.aload_n 0, 1) := by decide +kernel
theorem dX8_readLaw_177 : decode cX8_readLaw 177 = .ok (.invokevirtual 254, 3) := by decide +kernel
theorem dX8_readLaw_180 : decode cX8_readLaw 180 = .ok (.aload_n 0, 1) := by decide +kernel
theorem dX8_readLaw_181 : decode cX8_readLaw 181 = .ok (.iconst 1, 1) := by decide +kernel
theorem dX8_readLaw_182 : decode cX8_readLaw 182 = .ok (.invokevirtual 384, 3) := by decide +kernel
theorem dX8_readLaw_185 : decode cX8_readLaw 185 = .ok (.aload_n 0, 1) := by decide +kernel
theorem dX8_readLaw_186 : decode cX8_readLaw 186 = .ok (.getfield 42, 3) := by decide +kernel
theorem dX8_readLaw_189 : decode cX8_readLaw 189 = .ok (.iload_n 2, 1) := by decide +kernel
theorem dX8_readLaw_190 : decode cX8_readLaw 190 = .ok (.bipush 6, 2) := by decide +kernel
theorem dX8_readLaw_192 : decode cX8_readLaw 192 = .ok (.iadd, 1) := by decide +kernel
theorem dX8_readLaw_193 : decode cX8_readLaw 193 = .ok (.aload_n 0, 1) := by decide +kernel
theorem dX8_readLaw_194 : decode cX8_readLaw 194 = .ok (.getfield 289, 3) := by decide +kernel
theorem dX8_readLaw_197 : decode cX8_readLaw 197 = .ok (.iastore, 1) := by decide +kernel
theorem dX8_readLaw_198 : decode cX8_readLaw 198 = .ok (.return_, 1) := by decide +kernel
theorem dX8_law_0 : decode cX8_law 0 = .ok (.aload_n 0, 1) := by decide +kernel
theorem dX8_law_1 : decode cX8_law 1 = .ok (.iconst 0, 1) := by decide +kernel
theorem dX8_law_2 : decode cX8_law 2 = .ok (.putfield 161, 3) := by decide +kernel
theorem dX8_law_5 : decode cX8_law 5 = .ok (.aload_n 0, 1) := by decide +kernel
theorem dX8_law_6 : decode cX8_law 6 = .ok (.getfield 13, 3) := by decide +kernel
theorem dX8_law_9 : decode cX8_law 9 = .ok (.iconst 3, 1) := by decide +kernel
theorem dX8_law_10 : decode cX8_law 10 = .ok (.iaload, 1) := by decide +kernel
theorem dX8_law_11 : decode cX8_law 11 = .ok (.bipush 6, 2) := by decide +kernel
theorem dX8_law_13 : decode cX8_law 13 = .ok (.if_icmp .ne 15, 3) := by decide +kernel
theorem dX8_law_16 : decode cX8_law 16 = .ok (.aload_n 0, 1) := by decide +kernel
theorem dX8_law_17 : decode cX8_law 17 = .ok (.iconst 0, 1) := by decide +kernel
theorem dX8_law_18 : decode cX8_law 18 = .ok (.putfield 238, 3) := by decide +kernel
theorem dX8_law_21 : decode cX8_law 21 = .ok (.aload_n 0, 1) := by decide +kernel
theorem dX8_law_22 : decode cX8_law 22 = .ok (.bipush (-5), 2) := by decide +kernel
theorem dX8_law_24 : decode cX8_law 24 = .ok (.invokevirtual 170, 3) := by decide +kernel
theorem dX8_law_27 : decode cX8_law 27 = .ok (.ireturn, 1) := by decide +kernel
theorem dX8_law_28 : decode cX8_law 28 = .ok (.aload_n 0, 1) := by decide +kernel
theorem dX8_law_29 : decode cX8_law 29 = .ok (.iconst 0, 1) := by decide +kernel
theorem dX8_law_30 : decode cX8_law 30 = .ok (.invokevirtual 389, 3) := by decide +kernel
theorem dX8_law_33 : decode cX8_law 33 = .ok (.aload_n 0, 1) := by decide +kernel
theorem dX8_law_34 : decode cX8_law 34 = .ok (.invokevirtual 392, 3) := by decide +kernel
theorem dX8_law_37 : decode cX8_law 37 = .ok (.aload_n 0, 1) := by decide +kernel
theorem dX8_law_38 : decode cX8_law 38 = .ok (.getfield 250, 3) := by decide +kernel
theorem dX8_law_41 : decode cX8_law 41 = .ok (.ifCond .ne 23, 3) := by decide +kernel
theorem dX8_law_44 : decode cX8_law 44 = .ok (.aload_n 0, 1) := by decide +kernel
theorem dX8_law_45 : decode cX8_law 45 = .ok (.bipush 59, 2) := by decide +kernel
theorem dX8_law_47 : decode cX8_law 47 = .ok (.invokevirtual 321, 3) := by decide +kernel
theorem dX8_law_50 : decode cX8_law 50 = .ok (.ifCond .eq 14, 3) := by decide +kernel
theorem dX8_law_53 : decode cX8_law 53 = .ok (.aload_n 0, 1) := by decide +kernel
theorem dX8_law_54 : decode cX8_law 54 = .ok (.invokevirtual 254, 3) := by decide +kernel
theorem dX8_law_57 : decode cX8_law 57 = .ok (.aload_n 0, 1) := by decide +kernel
theorem dX8_law_58 : decode cX8_law 58 = .ok (.invokevirtual 392, 3) := by decide +kernel
theorem dX8_law_61 : decode cX8_law 61 = .ok (.goto (-24), 3) := by decide +kernel
theorem dX8_law_64 : decode cX8_law 64 = .ok (.aload_n 0, 1) := by decide +kernel
theorem dX8_law_65 : decode cX8_law 65 = .ok (.invokevirtual 395, 3) := by decide +kernel
theorem dX8_law_68 : decode cX8_law 68 = .ok (.aload_n 0, 1) := by decide +kernel
theorem dX8_law_69 : decode cX8_law 69 = .ok (.getfield 250, 3) := by decide +kernel
theorem dX8_law_72 : decode cX8_law 72 = .ok (.ifCond .eq 10, 3) := by decide +kernel
theorem dX8_law_75 : decode cX8_law 75 = .ok (.aload_n 0, 1) := by decide +kernel
theorem dX8_law_76 : decode cX8_law 76 = .ok (.bipush (-6), 2) := by decide +kernel
theorem dX8_law_78 : decode cX8_law 78 = .ok (.invokevirtual 170, 3) := by decide +kernel
theorem dX8_law_81 : decode cX8_law 81 = .ok (.ireturn, 1) := by decide +kernel
theorem dX8_law_82 : decode cX8_law 82 = .ok (.sipush 140, 3) := by decide +kernel
theorem dX8_law_85 : decode cX8_law 85 = .ok (.sipush 900, 3) := by decide +kernel
theorem dX8_law_88 : decode cX8_law 88 = .ok (.aload_n 0, 1) := by decide +kernel
theorem dX8_law_89 : decode cX8_law 89 = .ok (.getfield 13, 3) := by decide +kernel
theorem dX8_law_92 : decode cX8_law 92 = .ok (.iconst 3, 1) := by decide +kernel
theorem dX8_law_93 : decode cX8_law 93 = .ok (.iaload, 1) := by decide +kernel
theorem dX8_law_94 : decode cX8_law 94 = .ok (.imul, 1) := by decide +kernel
theorem dX8_law_95 : decode cX8_law 95 = .ok (.iadd, 1) := by decide +kernel
theorem dX8_law_96 : decode cX8_law 96 = .ok (.istore_n 1, 1) := by decide +kernel
theorem dX8_law_97 : decode cX8_law 97 = .ok (.aload_n 0, 1) := by decide +kernel
theorem dX8_law_98 : decode cX8_law 98 = .ok (.getfield 13, 3) := by decide +kernel
theorem dX8_law_101 : decode cX8_law 101 = .ok (.iload_n 1, 1) := by decide +kernel
theorem dX8_law_102 : decode cX8_law 102 = .ok (.iconst 1, 1) := by decide +kernel
theorem dX8_law_103 : decode cX8_law 103 = .ok (.iadd, 1) := by decide +kernel
theorem dX8_law_104 : decode cX8_law 104 = .ok (.aload_n 0, 1) := by decide +kernel
theorem dX8_law_105 : decode cX8_law 105 = .ok (.getfield 381, 3) := by decide +kernel
theorem dX8_law_108 : decode cX8_law 108 = .ok (.iastore, 1) := by decide +kernel
theorem dX8_law_109 : decode cX8_law 109 = .ok (.iconst 0, 1) := by decide +kernel
theorem dX8_law_110 : decode cX8_law 110 = .ok (.istore_n 2, 1) := by decide +kernel
theorem dX8_law_111 : decode cX8_law 111 = .ok (.iload_n 2, 1) := by decide +kernel
theorem dX8_law_112 : decode cX8_law 112 = .ok (.bipush 8, 2) := by decide +kernel
theorem dX8_law_114 : decode cX8_law 114 = .ok (.aload_n 0, 1) := by decide +kernel
theorem dX8_law_115 : decode cX8_law 115 = .ok (.getfield 381, 3) := by decide +kernel
theorem dX8_law_118 : decode cX8_law 118 = .ok (.imul, 1) := by decide +kernel
theorem dX8_law_119 : decode cX8_law 119 = .ok (.if_icmp .ge 25, 3) := by decide +kernel
theorem dX8_law_122 : decode cX8_law 122 = .ok (.aload_n 0, 1) := by decide +kernel
theorem dX8_law_123 : decode cX8_law 123 = .ok (.getfield 13, 3) := by decide +kernel
theorem dX8_law_126 : decode cX8_law 126 = .ok (.iload_n 1, 1) := by decide +kernel
theorem dX8_law_127 : decode cX8_law 127 = .ok (.iconst 2, 1) := by decide +kernel
theorem dX8_law_128 : decode cX8_law 128 = .ok (.iadd, 1) := by decide +kernel
theorem dX8_law_129 : decode cX8_law 129 = .ok (.iload_n 2, 1) := by decide +kernel
theorem dX8_law_130 : decode cX8_law 130 = .ok (.iadd, 1) := by decide +kernel
theorem dX8_law_131 : decode cX8_law 131 = .ok (.aload_n 0, 1) := by decide +kernel
theorem dX8_law_132 : decode cX8_law 132 = .ok (.getfield 42, 3) := by decide +kernel
theorem dX8_law_135 : decode cX8_law 135 = .ok (.iload_n 2, 1) := by decide +kernel
theorem dX8_law_136 : decode cX8_law 136 = .ok (.iaload, 1) := by decide +kernel
theorem dX8_law_137 : decode cX8_law 137 = .ok (.iastore, 1) := by decide +kernel
theorem dX8_law_138 : decode cX8_law 138 = .ok (.iinc 2 1, 3) := by decide +kernel
theorem dX8_law_141 : decode cX8_law 141 = .ok (.goto (-30), 3) := by decide +kernel
theorem dX8_law_144 : decode cX8_law 144 = .ok (.iconst 0, 1) := by decide +kernel
theorem dX8_law_145 : decode cX8_law 145 = .ok (.istore_n 2, 1) := by decide +kernel
theorem dX8_law_146 : decode cX8_law 146 = .ok (.iload_n 2, 1) := by decide +kernel
theorem dX8_law_147 : decode cX8_law 147 = .ok (.aload_n 0, 1) := by decide +kernel
theorem dX8_law_148 : decode cX8_law 148 = .ok (.getfield 289, 3) := by decide +kernel
theorem dX8_law_151 : decode cX8_law 151 = .ok (.if_icmp .ge 49, 3) := by decide +kernel
theorem dX8_law_154 : decode cX8_law 154 = .ok (.aload_n 0, 1) := by decide +kernel
theorem dX8_law_155 : decode cX8_law 155 = .ok (.getfield 13, 3) := by decide +kernel
theorem dX8_law_158 : decode cX8_law 158 = .ok (.iload_n 1, 1) := by decide +kernel
theorem dX8_law_159 : decode cX8_law 159 = .ok (.bipush 98, 2) := by decide +kernel
theorem dX8_law_161 : decode cX8_law 161 = .ok (.iadd, 1) := by decide +kernel
theorem dX8_law_162 : decode cX8_law 162 = .ok (.iconst 2, 1) := by decide +kernel
theorem dX8_law_163 : decode cX8_law 163 = .ok (.iload_n 2, 1) := by decide +kernel
theorem dX8_law_164 : decode cX8_law 164 = .ok (.imul, 1) := by decide +kernel
theorem dX8_law_165 : decode cX8_law 165 = .ok (.iadd, 1) := by decide +kernel
theorem dX8_law_166 : decode cX8_law 166 = .ok (.aload_n 0, 1) := by decide +kernel
theorem dX8_law_167 : decode cX8_law 167 = .ok (.getfield 45, 3) := by decide +kernel
theorem dX8_law_170 : decode cX8_law 170 = .ok (.iload_n 2, 1) := by decide +kernel
theorem dX8_law_171 : decode cX8_law 171 = .ok (.iaload, 1) := by decide +kernel
theorem dX8_law_172 : decode cX8_law 172 = .ok (.iastore, 1) := by decide +kernel
theorem dX8_law_173 : decode cX8_law 173 = .ok (.aload_n 0, 1) := by decide +kernel
theorem dX8_law_174 : decode cX8_law 174 = .ok (.getfield 13, 3) := by decide +kernel
theorem dX8_law_177 : decode cX8_law 177 = .ok (.iload_n 1, 1) := by decide +kernel
theorem dX8_law_178 : decode cX8_law 178 = .ok (.bipush 98, 2) := by decide +kernel
theorem dX8_law_180 : decode cX8_law 180 = .ok (.iadd, 1) := by decide +kernel
theorem dX8_law_181 : decode cX8_law 181 = .ok (.iconst 2, 1) := by decide +kernel
theorem dX8_law_182 : decode cX8_law 182 = .ok (.iload_n 2, 1) := by decide +kernel
theorem dX8_law_183 : decode cX8_law 183 = .ok (.imul, 1) := by decide +kernel
theorem dX8_law_184 : decode cX8_law 184 = .ok (.iadd, 1) := by decide +kernel
theorem dX8_law_185 : decode cX8_law 185 = .ok (.iconst 1, 1) := by decide +kernel
theorem dX8_law_186 : decode cX8_law 186 = .ok (.iadd, 1) := by decide +kernel
theorem dX8_law_187 : decode cX8_law 187 = .ok (.aload_n 0, 1) := by decide +kernel
theorem dX8_law_188 : decode cX8_law 188 = .ok (.getfield 48, 3) := by decide +kernel
theorem dX8_law_191 : decode cX8_law 191 = .ok (.iload_n 2, 1) := by decide +kernel
theorem dX8_law_192 : decode cX8_law 192 = .ok (.iaload, 1) := by decide +kernel
theorem dX8_law_193 : decode cX8_law 193 = .ok (.iastore, 1) := by decide +kernel
theorem dX8_law_194 : decode cX8_law 194 = .ok (.iinc 2 1, 3) := by decide +kernel
theorem dX8_law_197 : decode cX8_law 197 = .ok (.goto (-51), 3) := by decide +kernel
theorem dX8_law_200 : decode cX8_law 200 = .ok (.aload_n 0, 1) := by decide +kernel
theorem dX8_law_201 : decode cX8_law 201 = .ok (.getfield 13, 3) := by decide +kernel
theorem dX8_law_204 : decode cX8_law 204 = .ok (.iconst 3, 1) := by decide +kernel
theorem dX8_law_205 : decode cX8_law 205 = .ok (.dup2, 1) := by decide +kernel
theorem dX8_law_206 : decode cX8_law 206 = .ok (.iaload, 1) := by decide +kernel
theorem dX8_law_207 : decode cX8_law 207 = .ok (.iconst 1, 1) := by decide +kernel
theorem dX8_law_208 : decode cX8_law 208 = .ok (.iadd, 1) := by decide +kernel
theorem dX8_law_209 : decode cX8_law 209 = .ok (.iastore, 1) := by decide +kernel
theorem dX8_law_210 : decode cX8_law 210 = .ok (.aload_n 0, 1) := by decide +kernel
theorem dX8_law_211 : decode cX8_law 211 = .ok (.aload_n 0, 1) := by decide +kernel
theorem dX8_law_212 : decode cX8_law 212 = .ok (.getfield 13, 3) := by decide +kernel
theorem dX8_law_215 : decode cX8_law 215 = .ok (.iconst 3, 1) := by decide +kernel
theorem dX8_law_216 : decode cX8_law 216 = .ok (.iaload, 1) := by decide +kernel
theorem dX8_law_217 : decode cX8_law 217 = .ok (.iconst 1, 1) := by decide +kernel
theorem dX8_law_218 : decode cX8_law 218 = .ok (.isub, 1) := by decide +kernel
theorem dX8_law_219 : decode cX8_law 219 = .ok (.invokevirtual 170, 3) := by decide +kernel
theorem dX8_law_222 : decode cX8_law 222 = .ok (.ireturn, 1) := by decide +kernel
theorem dX8_force_0 : decode cX8_force 0 = .ok (.aload_n 0, 1) := by decide +kernel
theorem dX8_force_1 : decode cX8_force 1 = .ok (.iconst 0, 1) := by decide +kernel
theorem dX8_force_2 : decode cX8_force 2 = .ok (.putfield 161, 3) := by decide +kernel
theorem dX8_force_5 : decode cX8_force 5 = .ok (.iload_n 1, 1) := by decide +kernel
theorem dX8_force_6 : decode cX8_force 6 = .ok (.iconst (-1), 1) := by decide +kernel
theorem dX8_force_7 : decode cX8_force 7 = .ok (.if_icmp .eq 21, 3) := by decide +kernel
theorem dX8_force_10 : decode cX8_force 10 = .ok (.iload_n 1, 1) := by decide +kernel
theorem dX8_force_11 : decode cX8_force 11 = .ok (.i2l, 1) := by decide +kernel
theorem dX8_force_12 : decode cX8_force 12 = .ok (.lconst 0, 1) := by decide +kernel
theorem dX8_force_13 : decode cX8_force 13 = .ok (.aload_n 0, 1) := by decide +kernel
theorem dX8_force_14 : decode cX8_force 14 = .ok (.getfield 13, 3) := by decide +kernel
theorem dX8_force_17 : decode cX8_force 17 = .ok (.iconst 3, 1) := by decide +kernel
theorem dX8_force_18 : decode cX8_force 18 = .ok (.iaload, 1) := by decide +kernel
theorem dX8_force_19 : decode cX8_force 19 = .ok (.i2l, 1) := by decide +kernel
theorem dX8_force_20 : decode cX8_force 20 = .ok (.lconst 1, 1) := by decide +kernel
theorem dX8_force_21 : decode cX8_force 21 = .ok (.lsub, 1) := by decide +kernel
theorem dX8_force_22 : decode cX8_force 22 = .ok (.invokestatic 181, 3) := by decide +kernel
theorem dX8_force_25 : decode cX8_force 25 = .ok (.ifCond .eq 12, 3) := by decide +kernel
theorem dX8_force_28 : decode cX8_force 28 = .ok (.aload_n 0, 1) := by decide +kernel
theorem dX8_force_29 : decode cX8_force 29 = .ok (.iconst 4, 1) := by decide +kernel
theorem dX8_force_30 : decode cX8_force 30 = .ok (.iload_n 1, 1) := by decide +kernel
theorem dX8_force_31 : decode cX8_force 31 = .ok (.invokevirtual 223, 3) := by decide +kernel
theorem dX8_force_34 : decode cX8_force 34 = .ok (.goto 9, 3) := by decide +kernel
theorem dX8_force_37 : decode cX8_force 37 = .ok (.aload_n 0, 1) := by decide +kernel
theorem dX8_force_38 : decode cX8_force 38 = .ok (.bipush (-2), 2) := by decide +kernel
theorem dX8_force_40 : decode cX8_force 40 = .ok (.invokevirtual 170, 3) := by decide +kernel
theorem dX8_force_43 : decode cX8_force 43 = .ok (.ireturn, 1) := by decide +kernel
theorem dX8_reckon_0 : decode cX8_reckon 0 = .ok (.iload_n 1, 1) := by decide +kernel
theorem dX8_reckon_1 : decode cX8_reckon 1 = .ok (.tableswitch 148 20 26 #[43, 48, 53, 58, 90, 122, 135], 43) := by decide +kernel
theorem dX8_reckon_44 : decode cX8_reckon 44 = .ok (.lload_n 2, 1) := by decide +kernel
theorem dX8_reckon_45 : decode cX8_reckon 45 = .ok (.lload 4, 2) := by decide +kernel
theorem dX8_reckon_47 : decode cX8_reckon 47 = .ok (.ladd, 1) := by decide +kernel
theorem dX8_reckon_48 : decode cX8_reckon 48 = .ok (.lreturn, 1) := by decide +kernel
theorem dX8_reckon_49 : decode cX8_reckon 49 = .ok (.lload_n 2, 1) := by decide +kernel
theorem dX8_reckon_50 : decode cX8_reckon 50 = .ok (.lload 4, 2) := by decide +kernel
theorem dX8_reckon_52 : decode cX8_reckon 52 = .ok (.lsub, 1) := by decide +kernel
theorem dX8_reckon_53 : decode cX8_reckon 53 = .ok (.lreturn, 1) := by decide +kernel
theorem dX8_reckon_54 : decode cX8_reckon 54 = .ok (.lload_n 2, 1) := by decide +kernel
theorem dX8_reckon_55 : decode cX8_reckon 55 = .ok (.lload 4, 2) := by decide +kernel
theorem dX8_reckon_57 : decode cX8_reckon 57 = .ok (.lmul, 1) := by decide +kernel
theorem dX8_reckon_58 : decode cX8_reckon 58 = .ok (.lreturn, 1) := by decide +kernel
theorem dX8_reckon_59 : decode cX8_reckon 59 = .ok (.aload_n 0, 1) := by decide +kernel
theorem dX8_reckon_60 : decode cX8_reckon 60 = .ok (.lload 4, 2) := by decide +kernel
theorem dX8_reckon_62 : decode cX8_reckon 62 = .ok (.lconst 0, 1) := by decide +kernel
theorem dX8_reckon_63 : decode cX8_reckon 63 = .ok (.lcmp, 1) := by decide +kernel
theorem dX8_reckon_64 : decode cX8_reckon 64 = .ok (.ifCond .ne 7, 3) := by decide +kernel
theorem dX8_reckon_67 : decode cX8_reckon 67 = .ok (.iconst 1, 1) := by decide +kernel
theorem dX8_reckon_68 : decode cX8_reckon 68 = .ok (.goto 4, 3) := by decide +kernel
theorem dX8_reckon_71 : decode cX8_reckon 71 = .ok (.iconst 0, 1) := by decide +kernel
theorem dX8_reckon_72 : decode cX8_reckon 72 = .ok (.putfield 398, 3) := by decide +kernel
theorem dX8_reckon_75 : decode cX8_reckon 75 = .ok (.aload_n 0, 1) := by decide +kernel
theorem dX8_reckon_76 : decode cX8_reckon 76 = .ok (.getfield 398, 3) := by decide +kernel
theorem dX8_reckon_79 : decode cX8_reckon 79 = .ok (.ifCond .eq 7, 3) := by decide +kernel
theorem dX8_reckon_82 : decode cX8_reckon 82 = .ok (.lconst 0, 1) := by decide +kernel
theorem dX8_reckon_83 : decode cX8_reckon 83 = .ok (.goto 7, 3) := by decide +kernel
theorem dX8_reckon_86 : decode cX8_reckon 86 = .ok (.lload_n 2, 1) := by decide +kernel
theorem dX8_reckon_87 : decode cX8_reckon 87 = .ok (.lload 4, 2) := by decide +kernel
theorem dX8_reckon_89 : decode cX8_reckon 89 = .ok (.ldiv, 1) := by decide +kernel
theorem dX8_reckon_90 : decode cX8_reckon 90 = .ok (.lreturn, 1) := by decide +kernel
theorem dX8_reckon_91 : decode cX8_reckon 91 = .ok (.aload_n 0, 1) := by decide +kernel
theorem dX8_reckon_92 : decode cX8_reckon 92 = .ok (.lload 4, 2) := by decide +kernel
theorem dX8_reckon_94 : decode cX8_reckon 94 = .ok (.lconst 0, 1) := by decide +kernel
theorem dX8_reckon_95 : decode cX8_reckon 95 = .ok (.lcmp, 1) := by decide +kernel
theorem dX8_reckon_96 : decode cX8_reckon 96 = .ok (.ifCond .ne 7, 3) := by decide +kernel
theorem dX8_reckon_99 : decode cX8_reckon 99 = .ok (.iconst 1, 1) := by decide +kernel
theorem dX8_reckon_100 : decode cX8_reckon 100 = .ok (.goto 4, 3) := by decide +kernel
theorem dX8_reckon_103 : decode cX8_reckon 103 = .ok (.iconst 0, 1) := by decide +kernel
theorem dX8_reckon_104 : decode cX8_reckon 104 = .ok (.putfield 398, 3) := by decide +kernel
theorem dX8_reckon_107 : decode cX8_reckon 107 = .ok (.aload_n 0, 1) := by decide +kernel
theorem dX8_reckon_108 : decode cX8_reckon 108 = .ok (.getfield 398, 3) := by decide +kernel
theorem dX8_reckon_111 : decode cX8_reckon 111 = .ok (.ifCond .eq 7, 3) := by decide +kernel
theorem dX8_reckon_114 : decode cX8_reckon 114 = .ok (.lconst 0, 1) := by decide +kernel
theorem dX8_reckon_115 : decode cX8_reckon 115 = .ok (.goto 7, 3) := by decide +kernel
theorem dX8_reckon_118 : decode cX8_reckon 118 = .ok (.lload_n 2, 1) := by decide +kernel
theorem dX8_reckon_119 : decode cX8_reckon 119 = .ok (.lload 4, 2) := by decide +kernel
theorem dX8_reckon_121 : decode cX8_reckon 121 = .ok (.lrem, 1) := by decide +kernel
theorem dX8_reckon_122 : decode cX8_reckon 122 = .ok (.lreturn, 1) := by decide +kernel
theorem dX8_reckon_123 : decode cX8_reckon 123 = .ok (.lload_n 2, 1) := by decide +kernel
theorem dX8_reckon_124 : decode cX8_reckon 124 = .ok (.lload 4, 2) := by decide +kernel
theorem dX8_reckon_126 : decode cX8_reckon 126 = .ok (.lcmp, 1) := by decide +kernel
theorem dX8_reckon_127 : decode cX8_reckon 127 = .ok (.ifCond .ge 7, 3) := by decide +kernel
theorem dX8_reckon_130 : decode cX8_reckon 130 = .ok (.lconst 1, 1) := by decide +kernel
theorem dX8_reckon_131 : decode cX8_reckon 131 = .ok (.goto 4, 3) := by decide +kernel
theorem dX8_reckon_134 : decode cX8_reckon 134 = .ok (.lconst 0, 1) := by decide +kernel
theorem dX8_reckon_135 : decode cX8_reckon 135 = .ok (.lreturn, 1) := by decide +kernel
theorem dX8_reckon_136 : decode cX8_reckon 136 = .ok (.lload_n 2, 1) := by decide +kernel
theorem dX8_reckon_137 : decode cX8_reckon 137 = .ok (.lload 4, 2) := by decide +kernel
theorem dX8_reckon_139 : decode cX8_reckon 139 = .ok (.lcmp, 1) := by decide +kernel
theorem dX8_reckon_140 : decode cX8_reckon 140 = .ok (.ifCond .le 7, 3) := by decide +kernel
theorem dX8_reckon_143 : decode cX8_reckon 143 = .ok (.lconst 1, 1) := by decide +kernel
theorem dX8_reckon_144 : decode cX8_reckon 144 = .ok (.goto 4, 3) := by decide +kernel
theorem dX8_reckon_147 : decode cX8_reckon 147 = .ok (.lconst 0, 1) := by decide +kernel
theorem dX8_reckon_148 : decode cX8_reckon 148 = .ok (.lreturn, 1) := by decide +kernel
theorem dX8_reckon_149 : decode cX8_reckon 149 = .ok (.lload_n 2, 1) := by decide +kernel
theorem dX8_reckon_150 : decode cX8_reckon 150 = .ok (.lload 4, 2) := by decide +kernel
theorem dX8_reckon_152 : decode cX8_reckon 152 = .ok (.lcmp, 1) := by decide +kernel
theorem dX8_reckon_153 : decode cX8_reckon 153 = .ok (.ifCond .ne 7, 3) := by decide +kernel
theorem dX8_reckon_156 : decode cX8_reckon 156 = .ok (.lconst 1, 1) := by decide +kernel
theorem dX8_reckon_157 : decode cX8_reckon 157 = .ok (.goto 4, 3) := by decide +kernel
theorem dX8_reckon_160 : decode cX8_reckon 160 = .ok (.lconst 0, 1) := by decide +kernel
theorem dX8_reckon_161 : decode cX8_reckon 161 = .ok (.lreturn, 1) := by decide +kernel
theorem dX8_reckonAll_0 : decode cX8_reckonAll 0 = .ok (.aload_n 0, 1) := by decide +kernel
theorem dX8_reckonAll_1 : decode cX8_reckonAll 1 = .ok (.iconst 0, 1) := by decide +kernel
theorem dX8_reckonAll_2 : decode cX8_reckonAll 2 = .ok (.putfield 398, 3) := by decide +kernel
theorem dX8_reckonAll_5 : decode cX8_reckonAll 5 = .ok (.iconst 0, 1) := by decide +kernel
theorem dX8_reckonAll_6 : decode cX8_reckonAll 6 = .ok (.istore_n 3, 1) := by decide +kernel
theorem dX8_reckonAll_7 : decode cX8_reckonAll 7 = .ok (.iload_n 1, 1) := by decide +kernel
theorem dX8_reckonAll_8 : decode cX8_reckonAll 8 = .ok (.istore 4, 2) := by decide +kernel
theorem dX8_reckonAll_10 : decode cX8_reckonAll 10 = .ok (.iload 4, 2) := by decide +kernel
theorem dX8_reckonAll_12 : decode cX8_reckonAll 12 = .ok (.iload_n 2, 1) := by decide +kernel
theorem dX8_reckonAll_13 : decode cX8_reckonAll 13 = .ok (.if_icmp .ge 383, 3) := by decide +kernel
theorem dX8_reckonAll_16 : decode cX8_reckonAll 16 = .ok (.aload_n 0, 1) := by decide +kernel
theorem dX8_reckonAll_17 : decode cX8_reckonAll 17 = .ok (.getfield 398, 3) := by decide +kernel
theorem dX8_reckonAll_20 : decode cX8_reckonAll 20 = .ok (.ifCond .ne 376, 3) := by decide +kernel
theorem dX8_reckonAll_23 : decode cX8_reckonAll 23 = .ok (.aload_n 0, 1) := by decide +kernel
theorem dX8_reckonAll_24 : decode cX8_reckonAll 24 = .ok (.getfield 327, 3) := by decide +kernel
theorem dX8_reckonAll_27 : decode cX8_reckonAll 27 = .ok (.ifCond .eq 13, 3) := by decide +kernel
theorem dX8_reckonAll_30 : decode cX8_reckonAll 30 = .ok (.aload_n 0, 1) := by decide +kernel
theorem dX8_reckonAll_31 : decode cX8_reckonAll 31 = .ok (.getfield 45, 3) := by decide +kernel
theorem dX8_reckonAll_34 : decode cX8_reckonAll 34 = .ok (.iload 4, 2) := by decide +kernel
theorem dX8_reckonAll_36 : decode cX8_reckonAll 36 = .ok (.iaload, 1) := by decide +kernel
theorem dX8_reckonAll_37 : decode cX8_reckonAll 37 = .ok (.goto 20, 3) := by decide +kernel
theorem dX8_reckonAll_40 : decode cX8_reckonAll 40 = .ok (.aload_n 0, 1) := by decide +kernel
theorem dX8_reckonAll_41 : decode cX8_reckonAll 41 = .ok (.getfield 13, 3) := by decide +kernel
theorem dX8_reckonAll_44 : decode cX8_reckonAll 44 = .ok (.aload_n 0, 1) := by decide +kernel
theorem dX8_reckonAll_45 : decode cX8_reckonAll 45 = .ok (.getfield 401, 3) := by decide +kernel
theorem dX8_reckonAll_48 : decode cX8_reckonAll 48 = .ok (.bipush 98, 2) := by decide +kernel
theorem dX8_reckonAll_50 : decode cX8_reckonAll 50 = .ok (.iadd, 1) := by decide +kernel
theorem dX8_reckonAll_51 : decode cX8_reckonAll 51 = .ok (.iconst 2, 1) := by decide +kernel
theorem dX8_reckonAll_52 : decode cX8_reckonAll 52 = .ok (.iload 4, 2) := by decide +kernel
theorem dX8_reckonAll_54 : decode cX8_reckonAll 54 = .ok (.imul, 1) := by decide +kernel
theorem dX8_reckonAll_55 : decode cX8_reckonAll 55 = .ok (.iadd, 1) := by decide +kernel
theorem dX8_reckonAll_56 : decode cX8_reckonAll 56 = .ok (.iaload, 1) := by decide +kernel
theorem dX8_reckonAll_57 : decode cX8_reckonAll 57 = .ok (.istore 5, 2) := by decide +kernel
theorem dX8_reckonAll_59 : decode cX8_reckonAll 59 = .ok (.aload_n 0, 1) := by decide +kernel
theorem dX8_reckonAll_60 : decode cX8_reckonAll 60 = .ok (.getfield 327, 3) := by decide +kernel
theorem dX8_reckonAll_63 : decode cX8_reckonAll 63 = .ok (.ifCond .eq 13, 3) := by decide +kernel
theorem dX8_reckonAll_66 : decode cX8_reckonAll 66 = .ok (.aload_n 0, 1) := by decide +kernel
theorem dX8_reckonAll_67 : decode cX8_reckonAll 67 = .ok (.getfield 48, 3) := by decide +kernel
theorem dX8_reckonAll_70 : decode cX8_reckonAll 70 = .ok (.iload 4, 2) := by decide +kernel
theorem dX8_reckonAll_72 : decode cX8_reckonAll 72 = .ok (.iaload, 1) := by decide +kernel
theorem dX8_reckonAll_73 : decode cX8_reckonAll 73 = .ok (.goto 22, 3) := by decide +kernel
theorem dX8_reckonAll_76 : decode cX8_reckonAll 76 = .ok (.aload_n 0, 1) := by decide +kernel
theorem dX8_reckonAll_77 : decode cX8_reckonAll 77 = .ok (.getfield 13, 3) := by decide +kernel
theorem dX8_reckonAll_80 : decode cX8_reckonAll 80 = .ok (.aload_n 0, 1) := by decide +kernel
theorem dX8_reckonAll_81 : decode cX8_reckonAll 81 = .ok (.getfield 401, 3) := by decide +kernel
theorem dX8_reckonAll_84 : decode cX8_reckonAll 84 = .ok (.bipush 98, 2) := by decide +kernel
theorem dX8_reckonAll_86 : decode cX8_reckonAll 86 = .ok (.iadd, 1) := by decide +kernel
theorem dX8_reckonAll_87 : decode cX8_reckonAll 87 = .ok (.iconst 2, 1) := by decide +kernel
theorem dX8_reckonAll_88 : decode cX8_reckonAll 88 = .ok (.iload 4, 2) := by decide +kernel
theorem dX8_reckonAll_90 : decode cX8_reckonAll 90 = .ok (.imul, 1) := by decide +kernel
theorem dX8_reckonAll_91 : decode cX8_reckonAll 91 = .ok (.iadd, 1) := by decide +kernel
theorem dX8_reckonAll_92 : decode cX8_reckonAll 92 = .ok (.iconst 1, 1) := by decide +kernel
theorem dX8_reckonAll_93 : decode cX8_reckonAll 93 = .ok (.iadd, 1) := by decide +kernel
theorem dX8_reckonAll_94 : decode cX8_reckonAll 94 = .ok (.iaload, 1) := by decide +kernel
theorem dX8_reckonAll_95 : decode cX8_reckonAll 95 = .ok (.istore 6, 2) := by decide +kernel
theorem dX8_reckonAll_97 : decode cX8_reckonAll 97 = .ok (.iinc 4 1, 3) := by decide +kernel
theorem dX8_reckonAll_100 : decode cX8_reckonAll 100 = .ok (.iload 5, 2) := by decide +kernel
theorem dX8_reckonAll_102 : decode cX8_reckonAll 102 = .ok (.bipush 20, 2) := by decide +kernel
theorem dX8_reckonAll_104 : decode cX8_reckonAll 104 = .ok (.if_icmp .ge 150, 3) := by decide +kernel
theorem dX8_reckonAll_107 : decode cX8_reckonAll 107 = .ok (.aload_n 0, 1) := by decide +kernel
theorem dX8_reckonAll_108 : decode cX8_reckonAll 108 = .ok (.getfield 111, 3) := by decide +kernel
theorem dX8_reckonAll_111 : decode cX8_reckonAll 111 = .ok (.iload_n 3, 1) := by decide +kernel
theorem dX8_reckonAll_112 : decode cX8_reckonAll 112 = .ok (.iload 5, 2) := by decide +kernel
theorem dX8_reckonAll_114 : decode cX8_reckonAll 114 = .ok (.ifCond .ne 9, 3) := by decide +kernel
theorem dX8_reckonAll_117 : decode cX8_reckonAll 117 = .ok (.iload 6, 2) := by decide +kernel
theorem dX8_reckonAll_119 : decode cX8_reckonAll 119 = .ok (.i2l, 1) := by decide +kernel
theorem dX8_reckonAll_120 : decode cX8_reckonAll 120 = .ok (.goto 127, 3) := by decide +kernel
theorem dX8_reckonAll_123 : decode cX8_reckonAll 123 = .ok (.aload_n 0, 1) := by decide +kernel
theorem dX8_reckonAll_124 : decode cX8_reckonAll 124 = .ok (.getfield 327, 3) := by decide +kernel
theorem dX8_reckonAll_127 : decode cX8_reckonAll 127 = .ok (.ifCond .ne 13, 3) := by decide +kernel
theorem dX8_reckonAll_130 : decode cX8_reckonAll 130 = .ok (.aload_n 0, 1) := by decide +kernel
theorem dX8_reckonAll_131 : decode cX8_reckonAll 131 = .ok (.getfield 105, 3) := by decide +kernel
theorem dX8_reckonAll_134 : decode cX8_reckonAll 134 = .ok (.iload 5, 2) := by decide +kernel
theorem dX8_reckonAll_136 : decode cX8_reckonAll 136 = .ok (.laload, 1) := by decide +kernel
theorem dX8_reckonAll_137 : decode cX8_reckonAll 137 = .ok (.goto 110, 3) := by decide +kernel
theorem dX8_reckonAll_140 : decode cX8_reckonAll 140 = .ok (.iload 5, 2) := by decide +kernel
theorem dX8_reckonAll_142 : decode cX8_reckonAll 142 = .ok (.iconst 5, 1) := by decide +kernel
theorem dX8_reckonAll_143 : decode cX8_reckonAll 143 = .ok (.if_icmp .ge 13, 3) := by decide +kernel
theorem dX8_reckonAll_146 : decode cX8_reckonAll 146 = .ok (.aload_n 0, 1) := by decide +kernel
theorem dX8_reckonAll_147 : decode cX8_reckonAll 147 = .ok (.getfield 108, 3) := by decide +kernel
theorem dX8_reckonAll_150 : decode cX8_reckonAll 150 = .ok (.iload 5, 2) := by decide +kernel
theorem dX8_reckonAll_152 : decode cX8_reckonAll 152 = .ok (.laload, 1) := by decide +kernel
theorem dX8_reckonAll_153 : decode cX8_reckonAll 153 = .ok (.goto 94, 3) := by decide +kernel
theorem dX8_reckonAll_156 : decode cX8_reckonAll 156 = .ok (.iload 5, 2) := by decide +kernel
theorem dX8_reckonAll_158 : decode cX8_reckonAll 158 = .ok (.iconst 5, 1) := by decide +kernel
theorem dX8_reckonAll_159 : decode cX8_reckonAll 159 = .ok (.if_icmp .ne 30, 3) := by decide +kernel
theorem dX8_reckonAll_162 : decode cX8_reckonAll 162 = .ok (.aload_n 0, 1) := by decide +kernel
theorem dX8_reckonAll_163 : decode cX8_reckonAll 163 = .ok (.iload 6, 2) := by decide +kernel
theorem dX8_reckonAll_165 : decode cX8_reckonAll 165 = .ok (.invokevirtual 203, 3) := by decide +kernel
theorem dX8_reckonAll_168 : decode cX8_reckonAll 168 = .ok (.ifCond .eq 16, 3) := by decide +kernel
theorem dX8_reckonAll_171 : decode cX8_reckonAll 171 = .ok (.aload_n 0, 1) := by decide +kernel
theorem dX8_reckonAll_172 : decode cX8_reckonAll 172 = .ok (.getfield 13, 3) := by decide +kernel
theorem dX8_reckonAll_175 : decode cX8_reckonAll 175 = .ok (.bipush 15, 2) := by decide +kernel
theorem dX8_reckonAll_177 : decode cX8_reckonAll 177 = .ok (.iload 6, 2) := by decide +kernel
theorem dX8_reckonAll_179 : decode cX8_reckonAll 179 = .ok (.iadd, 1) := by decide +kernel
theorem dX8_reckonAll_180 : decode cX8_reckonAll 180 = .ok (.iaload, 1) := by decide +kernel
theorem dX8_reckonAll_181 : decode cX8_reckonAll 181 = .ok (.goto 4, 3) := by decide +kernel
theorem dX8_reckonAll_184 : decode cX8_reckonAll 184 = .ok (.iconst (-1), 1) := by decide +kernel
theorem dX8_reckonAll_185 : decode cX8_reckonAll 185 = .ok (.i2l, 1) := by decide +kernel
theorem dX8_reckonAll_186 : decode cX8_reckonAll 186 = .ok (.goto 61, 3) := by decide +kernel
theorem dX8_reckonAll_189 : decode cX8_reckonAll 189 = .ok (.iload 5, 2) := by decide +kernel
theorem dX8_reckonAll_191 : decode cX8_reckonAll 191 = .ok (.bipush 6, 2) := by decide +kernel
theorem dX8_reckonAll_193 : decode cX8_reckonAll 193 = .ok (.if_icmp .ne 30, 3) := by decide +kernel
theorem dX8_reckonAll_196 : decode cX8_reckonAll 196 = .ok (.aload_n 0, 1) := by decide +kernel
theorem dX8_reckonAll_197 : decode cX8_reckonAll 197 = .ok (.iload 6, 2) := by decide +kernel
theorem dX8_reckonAll_199 : decode cX8_reckonAll 199 = .ok (.invokevirtual 203, 3) := by decide +kernel
theorem dX8_reckonAll_202 : decode cX8_reckonAll 202 = .ok (.ifCond .eq 16, 3) := by decide +kernel
theorem dX8_reckonAll_205 : decode cX8_reckonAll 205 = .ok (.aload_n 0, 1) := by decide +kernel
theorem dX8_reckonAll_206 : decode cX8_reckonAll 206 = .ok (.getfield 13, 3) := by decide +kernel
theorem dX8_reckonAll_209 : decode cX8_reckonAll 209 = .ok (.bipush 7, 2) := by decide +kernel
theorem dX8_reckonAll_211 : decode cX8_reckonAll 211 = .ok (.iload 6, 2) := by decide +kernel
theorem dX8_reckonAll_213 : decode cX8_reckonAll 213 = .ok (.iadd, 1) := by decide +kernel
theorem dX8_reckonAll_214 : decode cX8_reckonAll 214 = .ok (.iaload, 1) := by decide +kernel
theorem dX8_reckonAll_215 : decode cX8_reckonAll 215 = .ok (.goto 4, 3) := by decide +kernel
theorem dX8_reckonAll_218 : decode cX8_reckonAll 218 = .ok (.iconst (-1), 1) := by decide +kernel
theorem dX8_reckonAll_219 : decode cX8_reckonAll 219 = .ok (.i2l, 1) := by decide +kernel
theorem dX8_reckonAll_220 : decode cX8_reckonAll 220 = .ok (.goto 27, 3) := by decide +kernel
theorem dX8_reckonAll_223 : decode cX8_reckonAll 223 = .ok (.aload_n 0, 1) := by decide +kernel
theorem dX8_reckonAll_224 : decode cX8_reckonAll 224 = .ok (.iload 6, 2) := by decide +kernel
theorem dX8_reckonAll_226 : decode cX8_reckonAll 226 = .ok (.invokevirtual 203, 3) := by decide +kernel
theorem dX8_reckonAll_229 : decode cX8_reckonAll 229 = .ok (.ifCond .eq 17, 3) := by decide +kernel
theorem dX8_reckonAll_232 : decode cX8_reckonAll 232 = .ok (.aload_n 0, 1) := by decide +kernel
theorem dX8_reckonAll_233 : decode cX8_reckonAll 233 = .ok (.getfield 13, 3) := by decide +kernel
theorem dX8_reckonAll_236 : decode cX8_reckonAll 236 = .ok (.bipush 23, 2) := by decide +kernel
theorem dX8_reckonAll_238 : decode cX8_reckonAll 238 = .ok (.iload 6, 2) := by decide +kernel
theorem dX8_reckonAll_240 : decode cX8_reckonAll 240 = .ok (.iadd, 1) := by decide +kernel
theorem dX8_reckonAll_241 : decode cX8_reckonAll 241 = .ok (.iaload, 1) := by decide +kernel
theorem dX8_reckonAll_242 : decode cX8_reckonAll 242 = .ok (.i2l, 1) := by decide +kernel
theorem dX8_reckonAll_243 : decode cX8_reckonAll 243 = .ok (.goto 4, 3) := by decide +kernel
theorem dX8_reckonAll_246 : decode cX8_reckonAll 246 = .ok (.lconst 0, 1) := by decide +kernel
theorem dX8_reckonAll_247 : decode cX8_reckonAll 247 = .ok (.lastore, 1) := by decide +kernel
theorem dX8_reckonAll_248 : decode cX8_reckonAll 248 = .ok (.iinc 3 1, 3) := by decide +kernel
theorem dX8_reckonAll_251 : decode cX8_reckonAll 251 = .ok (.goto 142, 3) := by decide +kernel
theorem dX8_reckonAll_254 : decode cX8_reckonAll 254 = .ok (.iload 5, 2) := by decide +kernel
theorem dX8_reckonAll_256 : decode cX8_reckonAll 256 = .ok (.bipush 28, 2) := by decide +kernel
theorem dX8_reckonAll_258 : decode cX8_reckonAll 258 = .ok (.if_icmp .ge 73, 3) := by decide +kernel
theorem dX8_reckonAll_261 : decode cX8_reckonAll 261 = .ok (.iinc 3 (-1), 3) := by decide +kernel
theorem dX8_reckonAll_264 : decode cX8_reckonAll 264 = .ok (.aload_n 0, 1) := by decide +kernel
theorem dX8_reckonAll_265 : decode cX8_reckonAll 265 = .ok (.getfield 111, 3) := by decide +kernel
theorem dX8_reckonAll_268 : decode cX8_reckonAll 268 = .ok (.iload_n 3, 1) := by decide +kernel
theorem dX8_reckonAll_269 : decode cX8_reckonAll 269 = .ok (.iconst 1, 1) := by decide +kernel
theorem dX8_reckonAll_270 : decode cX8_reckonAll 270 = .ok (.isub, 1) := by decide +kernel
theorem dX8_reckonAll_271 : decode cX8_reckonAll 271 = .ok (.aload_n 0, 1) := by decide +kernel
theorem dX8_reckonAll_272 : decode cX8_reckonAll 272 = .ok (.iload 5, 2) := by decide +kernel
theorem dX8_reckonAll_274 : decode cX8_reckonAll 274 = .ok (.aload_n 0, 1) := by decide +kernel
theorem dX8_reckonAll_275 : decode cX8_reckonAll 275 = .ok (.getfield 111, 3) := by decide +kernel
theorem dX8_reckonAll_278 : decode cX8_reckonAll 278 = .ok (.iload_n 3, 1) := by decide +kernel
theorem dX8_reckonAll_279 : decode cX8_reckonAll 279 = .ok (.iconst 1, 1) := by decide +kernel
theorem dX8_reckonAll_280 : decode cX8_reckonAll 280 = .ok (.isub, 1) := by decide +kernel
theorem dX8_reckonAll_281 : decode cX8_reckonAll 281 = .ok (.laload, 1) := by decide +kernel
theorem dX8_reckonAll_282 : decode cX8_reckonAll 282 = .ok (.aload_n 0, 1) := by decide +kernel
theorem dX8_reckonAll_283 : decode cX8_reckonAll 283 = .ok (.getfield 111, 3) := by decide +kernel
theorem dX8_reckonAll_286 : decode cX8_reckonAll 286 = .ok (.iload_n 3, 1) := by decide +kernel
theorem dX8_reckonAll_287 : decode cX8_reckonAll 287 = .ok (.laload, 1) := by decide +kernel
theorem dX8_reckonAll_288 : decode cX8_reckonAll 288 = .ok (.invokevirtual 404, 3) := by decide +kernel
theorem dX8_reckonAll_291 : decode cX8_reckonAll 291 = .ok (.lastore, 1) := by decide +kernel
theorem dX8_reckonAll_292 : decode cX8_reckonAll 292 = .ok (.aload_n 0, 1) := by decide +kernel
theorem dX8_reckonAll_293 : decode cX8_reckonAll 293 = .ok (.aload_n 0, 1) := by decide +kernel
theorem dX8_reckonAll_294 : decode cX8_reckonAll 294 = .ok (.getfield 398, 3) := by decide +kernel
theorem dX8_reckonAll_297 : decode cX8_reckonAll 297 = .ok (.ifCond .ne 23, 3) := by decide +kernel
theorem dX8_reckonAll_300 : decode cX8_reckonAll 300 = .ok (.aload_n 0, 1) := by decide +kernel
theorem dX8_reckonAll_301 : decode cX8_reckonAll 301 = .ok (.getfield 111, 3) := by decide +kernel
theorem dX8_reckonAll_304 : decode cX8_reckonAll 304 = .ok (.iload_n 3, 1) := by decide +kernel
theorem dX8_reckonAll_305 : decode cX8_reckonAll 305 = .ok (.iconst 1, 1) := by decide +kernel
theorem dX8_reckonAll_306 : decode cX8_reckonAll 306 = .ok (.isub, 1) := by decide +kernel
theorem dX8_reckonAll_307 : decode cX8_reckonAll 307 = .ok (.laload, 1) := by decide +kernel
theorem dX8_reckonAll_308 : decode cX8_reckonAll 308 = .ok (.ldc2_w 408, 3) := by decide +kernel
theorem dX8_reckonAll_311 : decode cX8_reckonAll 311 = .ok (.ldc2_w 410, 3) := by decide +kernel
theorem dX8_reckonAll_314 : decode cX8_reckonAll 314 = .ok (.invokestatic 181, 3) := by decide +kernel
theorem dX8_reckonAll_317 : decode cX8_reckonAll 317 = .ok (.ifCond .ne 7, 3) := by decide +kernel
theorem dX8_reckonAll_320 : decode cX8_reckonAll 320 = .ok (.iconst 1, 1) := by decide +kernel
theorem dX8_reckonAll_321 : decode cX8_reckonAll 321 = .ok (.goto 4, 3) := by decide +kernel
theorem dX8_reckonAll_324 : decode cX8_reckonAll 324 = .ok (.iconst 0, 1) := by decide +kernel
theorem dX8_reckonAll_325 : decode cX8_reckonAll 325 = .ok (.putfield 398, 3) := by decide +kernel
theorem dX8_reckonAll_328 : decode cX8_reckonAll 328 = .ok (.goto 65, 3) := by decide +kernel
theorem dX8_reckonAll_331 : decode cX8_reckonAll 331 = .ok (.iload 5, 2) := by decide +kernel
theorem dX8_reckonAll_333 : decode cX8_reckonAll 333 = .ok (.bipush 28, 2) := by decide +kernel
theorem dX8_reckonAll_335 : decode cX8_reckonAll 335 = .ok (.if_icmp .ne 24, 3) := by decide +kernel
theorem dX8_reckonAll_338 : decode cX8_reckonAll 338 = .ok (.aload_n 0, 1) := by decide +kernel
theorem dX8_reckonAll_339 : decode cX8_reckonAll 339 = .ok (.getfield 111, 3) := by decide +kernel
theorem dX8_reckonAll_342 : decode cX8_reckonAll 342 = .ok (.iload_n 3, 1) := by decide +kernel
theorem dX8_reckonAll_343 : decode cX8_reckonAll 343 = .ok (.iconst 1, 1) := by decide +kernel
theorem dX8_reckonAll_344 : decode cX8_reckonAll 344 = .ok (.isub, 1) := by decide +kernel
theorem dX8_reckonAll_345 : decode cX8_reckonAll 345 = .ok (.lconst 1, 1) := by decide +kernel
theorem dX8_reckonAll_346 : decode cX8_reckonAll 346 = .ok (.aload_n 0, 1) := by decide +kernel
theorem dX8_reckonAll_347 : decode cX8_reckonAll 347 = .ok (.getfield 111, 3) := by decide +kernel
theorem dX8_reckonAll_350 : decode cX8_reckonAll 350 = .ok (.iload_n 3, 1) := by decide +kernel
theorem dX8_reckonAll_351 : decode cX8_reckonAll 351 = .ok (.iconst 1, 1) := by decide +kernel
theorem dX8_reckonAll_352 : decode cX8_reckonAll 352 = .ok (.isub, 1) := by decide +kernel
theorem dX8_reckonAll_353 : decode cX8_reckonAll 353 = .ok (.laload, 1) := by decide +kernel
theorem dX8_reckonAll_354 : decode cX8_reckonAll 354 = .ok (.lsub, 1) := by decide +kernel
theorem dX8_reckonAll_355 : decode cX8_reckonAll 355 = .ok (.lastore, 1) := by decide +kernel
theorem dX8_reckonAll_356 : decode cX8_reckonAll 356 = .ok (.goto 37, 3) := by decide +kernel
theorem dX8_reckonAll_359 : decode cX8_reckonAll 359 = .ok (.aload_n 0, 1) := by decide +kernel
theorem dX8_reckonAll_360 : decode cX8_reckonAll 360 = .ok (.getfield 111, 3) := by decide +kernel
theorem dX8_reckonAll_363 : decode cX8_reckonAll 363 = .ok (.iload_n 3, 1) := by decide +kernel
theorem dX8_reckonAll_364 : decode cX8_reckonAll 364 = .ok (.iconst 1, 1) := by decide +kernel
theorem dX8_reckonAll_365 : decode cX8_reckonAll 365 = .ok (.isub, 1) := by decide +kernel
theorem dX8_reckonAll_366 : decode cX8_reckonAll 366 = .ok (.laload, 1) := by decide +kernel
theorem dX8_reckonAll_367 : decode cX8_reckonAll 367 = .ok (.iload 5, 2) := by decide +kernel
theorem dX8_reckonAll_369 : decode cX8_reckonAll 369 = .ok (.bipush 29, 2) := by decide +kernel
theorem dX8_reckonAll_371 : decode cX8_reckonAll 371 = .ok (.if_icmp .ne 7, 3) := by decide +kernel
theorem dX8_reckonAll_374 : decode cX8_reckonAll 374 = .ok (.lconst 0, 1) := by decide +kernel
theorem dX8_reckonAll_375 : decode cX8_reckonAll 375 = .ok (.goto 4, 3) := by decide +kernel
theorem dX8_reckonAll_378 : decode cX8_reckonAll 378 = .ok (.lconst 1, 1) := by decide +kernel
theorem dX8_reckonAll_379 : decode cX8_reckonAll 379 = .ok (.lcmp, 1) := by decide +kernel
theorem dX8_reckonAll_380 : decode cX8_reckonAll 380 = .ok (.ifCond .ne 10, 3) := by decide +kernel
theorem dX8_reckonAll_383 : decode cX8_reckonAll 383 = .ok (.iload 6, 2) := by decide +kernel
theorem dX8_reckonAll_385 : decode cX8_reckonAll 385 = .ok (.istore 4, 2) := by decide +kernel
theorem dX8_reckonAll_387 : decode cX8_reckonAll 387 = .ok (.goto 6, 3) := by decide +kernel
theorem dX8_reckonAll_390 : decode cX8_reckonAll 390 = .ok (.iinc 3 (-1), 3) := by decide +kernel
theorem dX8_reckonAll_393 : decode cX8_reckonAll 393 = .ok (.goto (-383), 3) := by decide +kernel
theorem dX8_reckonAll_396 : decode cX8_reckonAll 396 = .ok (.aload_n 0, 1) := by decide +kernel
theorem dX8_reckonAll_397 : decode cX8_reckonAll 397 = .ok (.iload_n 3, 1) := by decide +kernel
theorem dX8_reckonAll_398 : decode cX8_reckonAll 398 = .ok (.ifCond .le 12, 3) := by decide +kernel
theorem dX8_reckonAll_401 : decode cX8_reckonAll 401 = .ok (.aload_n 0, 1) := by decide +kernel
theorem dX8_reckonAll_402 : decode cX8_reckonAll 402 = .ok (.getfield 111, 3) := by decide +kernel
theorem dX8_reckonAll_405 : decode cX8_reckonAll 405 = .ok (.iconst 0, 1) := by decide +kernel
theorem dX8_reckonAll_406 : decode cX8_reckonAll 406 = .ok (.laload, 1) := by decide +kernel
theorem dX8_reckonAll_407 : decode cX8_reckonAll 407 = .ok (.goto 4, 3) := by decide +kernel
theorem dX8_reckonAll_410 : decode cX8_reckonAll 410 = .ok (.lconst 0, 1) := by decide +kernel
theorem dX8_reckonAll_411 : decode cX8_reckonAll 411 = .ok (.putfield 412, 3) := by decide +kernel
theorem dX8_reckonAll_414 : decode cX8_reckonAll 414 = .ok (.return_, 1) := by decide +kernel
theorem dX8_isSo_0 : decode cX8_isSo 0 = .ok (.aload_n 0, 1) := by decide +kernel
theorem dX8_isSo_1 : decode cX8_isSo 1 = .ok (.getfield 13, 3) := by decide +kernel
theorem dX8_isSo_4 : decode cX8_isSo 4 = .ok (.iload_n 1, 1) := by decide +kernel
theorem dX8_isSo_5 : decode cX8_isSo 5 = .ok (.iconst 5, 1) := by decide +kernel
theorem dX8_isSo_6 : decode cX8_isSo 6 = .ok (.iadd, 1) := by decide +kernel
theorem dX8_isSo_7 : decode cX8_isSo 7 = .ok (.iaload, 1) := by decide +kernel
theorem dX8_isSo_8 : decode cX8_isSo 8 = .ok (.aload_n 0, 1) := by decide +kernel
theorem dX8_isSo_9 : decode cX8_isSo 9 = .ok (.getfield 13, 3) := by decide +kernel
theorem dX8_isSo_12 : decode cX8_isSo 12 = .ok (.iload_n 1, 1) := by decide +kernel
theorem dX8_isSo_13 : decode cX8_isSo 13 = .ok (.bipush 6, 2) := by decide +kernel
theorem dX8_isSo_15 : decode cX8_isSo 15 = .ok (.iadd, 1) := by decide +kernel
theorem dX8_isSo_16 : decode cX8_isSo 16 = .ok (.iaload, 1) := by decide +kernel
theorem dX8_isSo_17 : decode cX8_isSo 17 = .ok (.if_icmp .ge 42, 3) := by decide +kernel
theorem dX8_isSo_20 : decode cX8_isSo 20 = .ok (.aload_n 0, 1) := by decide +kernel
theorem dX8_isSo_21 : decode cX8_isSo 21 = .ok (.aload_n 0, 1) := by decide +kernel
theorem dX8_isSo_22 : decode cX8_isSo 22 = .ok (.getfield 13, 3) := by decide +kernel
theorem dX8_isSo_25 : decode cX8_isSo 25 = .ok (.iload_n 1, 1) := by decide +kernel
theorem dX8_isSo_26 : decode cX8_isSo 26 = .ok (.iconst 5, 1) := by decide +kernel
theorem dX8_isSo_27 : decode cX8_isSo 27 = .ok (.iadd, 1) := by decide +kernel
theorem dX8_isSo_28 : decode cX8_isSo 28 = .ok (.iaload, 1) := by decide +kernel
theorem dX8_isSo_29 : decode cX8_isSo 29 = .ok (.aload_n 0, 1) := by decide +kernel
theorem dX8_isSo_30 : decode cX8_isSo 30 = .ok (.getfield 13, 3) := by decide +kernel
theorem dX8_isSo_33 : decode cX8_isSo 33 = .ok (.iload_n 1, 1) := by decide +kernel
theorem dX8_isSo_34 : decode cX8_isSo 34 = .ok (.bipush 6, 2) := by decide +kernel
theorem dX8_isSo_36 : decode cX8_isSo 36 = .ok (.iadd, 1) := by decide +kernel
theorem dX8_isSo_37 : decode cX8_isSo 37 = .ok (.iaload, 1) := by decide +kernel
theorem dX8_isSo_38 : decode cX8_isSo 38 = .ok (.invokevirtual 415, 3) := by decide +kernel
theorem dX8_isSo_41 : decode cX8_isSo 41 = .ok (.aload_n 0, 1) := by decide +kernel
theorem dX8_isSo_42 : decode cX8_isSo 42 = .ok (.getfield 398, 3) := by decide +kernel
theorem dX8_isSo_45 : decode cX8_isSo 45 = .ok (.ifCond .ne 12, 3) := by decide +kernel
theorem dX8_isSo_48 : decode cX8_isSo 48 = .ok (.aload_n 0, 1) := by decide +kernel
theorem dX8_isSo_49 : decode cX8_isSo 49 = .ok (.getfield 412, 3) := by decide +kernel
theorem dX8_isSo_52 : decode cX8_isSo 52 = .ok (.lconst 0, 1) := by decide +kernel
theorem dX8_isSo_53 : decode cX8_isSo 53 = .ok (.lcmp, 1) := by decide +kernel
theorem dX8_isSo_54 : decode cX8_isSo 54 = .ok (.ifCond .ne 5, 3) := by decide +kernel
theorem dX8_isSo_57 : decode cX8_isSo 57 = .ok (.iconst 0, 1) := by decide +kernel
theorem dX8_isSo_58 : decode cX8_isSo 58 = .ok (.ireturn, 1) := by decide +kernel
theorem dX8_isSo_59 : decode cX8_isSo 59 = .ok (.aload_n 0, 1) := by decide +kernel
theorem dX8_isSo_60 : decode cX8_isSo 60 = .ok (.getfield 13, 3) := by decide +kernel
theorem dX8_isSo_63 : decode cX8_isSo 63 = .ok (.iload_n 1, 1) := by decide +kernel
theorem dX8_isSo_64 : decode cX8_isSo 64 = .ok (.iaload, 1) := by decide +kernel
theorem dX8_isSo_65 : decode cX8_isSo 65 = .ok (.iconst 2, 1) := by decide +kernel
theorem dX8_isSo_66 : decode cX8_isSo 66 = .ok (.if_icmp .ge 44, 3) := by decide +kernel
theorem dX8_isSo_69 : decode cX8_isSo 69 = .ok (.aload_n 0, 1) := by decide +kernel
theorem dX8_isSo_70 : decode cX8_isSo 70 = .ok (.aload_n 0, 1) := by decide +kernel
theorem dX8_isSo_71 : decode cX8_isSo 71 = .ok (.getfield 13, 3) := by decide +kernel
theorem dX8_isSo_74 : decode cX8_isSo 74 = .ok (.iload_n 1, 1) := by decide +kernel
theorem dX8_isSo_75 : decode cX8_isSo 75 = .ok (.iconst 3, 1) := by decide +kernel
theorem dX8_isSo_76 : decode cX8_isSo 76 = .ok (.iadd, 1) := by decide +kernel
theorem dX8_isSo_77 : decode cX8_isSo 77 = .ok (.iaload, 1) := by decide +kernel
theorem dX8_isSo_78 : decode cX8_isSo 78 = .ok (.aload_n 0, 1) := by decide +kernel
theorem dX8_isSo_79 : decode cX8_isSo 79 = .ok (.getfield 13, 3) := by decide +kernel
theorem dX8_isSo_82 : decode cX8_isSo 82 = .ok (.iload_n 1, 1) := by decide +kernel
theorem dX8_isSo_83 : decode cX8_isSo 83 = .ok (.iconst 4, 1) := by decide +kernel
theorem dX8_isSo_84 : decode cX8_isSo 84 = .ok (.iadd, 1) := by decide +kernel
theorem dX8_isSo_85 : decode cX8_isSo 85 = .ok (.iaload, 1) := by decide +kernel
theorem dX8_isSo_86 : decode cX8_isSo 86 = .ok (.invokevirtual 415, 3) := by decide +kernel
theorem dX8_isSo_89 : decode cX8_isSo 89 = .ok (.aload_n 0, 1) := by decide +kernel
theorem dX8_isSo_90 : decode cX8_isSo 90 = .ok (.aload_n 0, 1) := by decide +kernel
theorem dX8_isSo_91 : decode cX8_isSo 91 = .ok (.getfield 412, 3) := by decide +kernel
theorem dX8_isSo_94 : decode cX8_isSo 94 = .ok (.putfield 418, 3) := by decide +kernel
theorem dX8_isSo_97 : decode cX8_isSo 97 = .ok (.aload_n 0, 1) := by decide +kernel
theorem dX8_isSo_98 : decode cX8_isSo 98 = .ok (.getfield 398, 3) := by decide +kernel
theorem dX8_isSo_101 : decode cX8_isSo 101 = .ok (.ifCond .ne 7, 3) := by decide +kernel
theorem dX8_isSo_104 : decode cX8_isSo 104 = .ok (.iconst 1, 1) := by decide +kernel
theorem dX8_isSo_105 : decode cX8_isSo 105 = .ok (.goto 4, 3) := by decide +kernel
theorem dX8_isSo_108 : decode cX8_isSo 108 = .ok (.iconst 0, 1) := by decide +kernel
theorem dX8_isSo_109 : decode cX8_isSo 109 = .ok (.ireturn, 1) := by decide +kernel
theorem dX8_isSo_110 : decode cX8_isSo 110 = .ok (.iconst 1, 1) := by decide +kernel
theorem dX8_isSo_111 : decode cX8_isSo 111 = .ok (.ireturn, 1) := by decide +kernel
theorem dX8_tells_0 : decode cX8_tells 0 = .ok (.aload_n 0, 1) := by decide +kernel
theorem dX8_tells_1 : decode cX8_tells 1 = .ok (.getfield 13, 3) := by decide +kernel
theorem dX8_tells_4 : decode cX8_tells 4 = .ok (.iconst 4, 1) := by decide +kernel
theorem dX8_tells_5 : decode cX8_tells 5 = .ok (.iaload, 1) := by decide +kernel
theorem dX8_tells_6 : decode cX8_tells 6 = .ok (.iconst (-1), 1) := by decide +kernel
theorem dX8_tells_7 : decode cX8_tells 7 = .ok (.if_icmp .ne 6, 3) := by decide +kernel
theorem dX8_tells_10 : decode cX8_tells 10 = .ok (.lload 7, 2) := by decide +kernel
theorem dX8_tells_12 : decode cX8_tells 12 = .ok (.lreturn, 1) := by decide +kernel
theorem dX8_tells_13 : decode cX8_tells 13 = .ok (.aload_n 0, 1) := by decide +kernel
theorem dX8_tells_14 : decode cX8_tells 14 = .ok (.sipush 140, 3) := by decide +kernel
theorem dX8_tells_17 : decode cX8_tells 17 = .ok (.sipush 900, 3) := by decide +kernel
theorem dX8_tells_20 : decode cX8_tells 20 = .ok (.aload_n 0, 1) := by decide +kernel
theorem dX8_tells_21 : decode cX8_tells 21 = .ok (.getfield 13, 3) := by decide +kernel
theorem dX8_tells_24 : decode cX8_tells 24 = .ok (.iconst 4, 1) := by decide +kernel
theorem dX8_tells_25 : decode cX8_tells 25 = .ok (.iaload, 1) := by decide +kernel
theorem dX8_tells_26 : decode cX8_tells 26 = .ok (.imul, 1) := by decide +kernel
theorem dX8_tells_27 : decode cX8_tells 27 = .ok (.iadd, 1) := by decide +kernel
theorem dX8_tells_28 : decode cX8_tells 28 = .ok (.putfield 401, 3) := by decide +kernel
theorem dX8_tells_31 : decode cX8_tells 31 = .ok (.aload_n 0, 1) := by decide +kernel
theorem dX8_tells_32 : decode cX8_tells 32 = .ok (.getfield 105, 3) := by decide +kernel
theorem dX8_tells_35 : decode cX8_tells 35 = .ok (.iconst 1, 1) := by decide +kernel
theorem dX8_tells_36 : decode cX8_tells 36 = .ok (.iload_n 2, 1) := by decide +kernel
theorem dX8_tells_37 : decode cX8_tells 37 = .ok (.i2l, 1) := by decide +kernel
theorem dX8_tells_38 : decode cX8_tells 38 = .ok (.lastore, 1) := by decide +kernel
theorem dX8_tells_39 : decode cX8_tells 39 = .ok (.aload_n 0, 1) := by decide +kernel
theorem dX8_tells_40 : decode cX8_tells 40 = .ok (.getfield 105, 3) := by decide +kernel
theorem dX8_tells_43 : decode cX8_tells 43 = .ok (.iconst 2, 1) := by decide +kernel
theorem dX8_tells_44 : decode cX8_tells 44 = .ok (.aload_n 0, 1) := by decide +kernel
theorem dX8_tells_45 : decode cX8_tells 45 = .ok (.getfield 13, 3) := by decide +kernel
theorem dX8_tells_48 : decode cX8_tells 48 = .ok (.bipush 72, 2) := by decide +kernel
theorem dX8_tells_50 : decode cX8_tells 50 = .ok (.iload_n 2, 1) := by decide +kernel
theorem dX8_tells_51 : decode cX8_tells 51 = .ok (.iadd, 1) := by decide +kernel
theorem dX8_tells_52 : decode cX8_tells 52 = .ok (.iaload, 1) := by decide +kernel
theorem dX8_tells_53 : decode cX8_tells 53 = .ok (.i2l, 1) := by decide +kernel
theorem dX8_tells_54 : decode cX8_tells 54 = .ok (.lastore, 1) := by decide +kernel
theorem dX8_tells_55 : decode cX8_tells 55 = .ok (.aload_n 0, 1) := by decide +kernel
theorem dX8_tells_56 : decode cX8_tells 56 = .ok (.getfield 105, 3) := by decide +kernel
theorem dX8_tells_59 : decode cX8_tells 59 = .ok (.iconst 3, 1) := by decide +kernel
theorem dX8_tells_60 : decode cX8_tells 60 = .ok (.aload_n 0, 1) := by decide +kernel
theorem dX8_tells_61 : decode cX8_tells 61 = .ok (.getfield 13, 3) := by decide +kernel
theorem dX8_tells_64 : decode cX8_tells 64 = .ok (.bipush 80, 2) := by decide +kernel
theorem dX8_tells_66 : decode cX8_tells 66 = .ok (.iload_n 2, 1) := by decide +kernel
theorem dX8_tells_67 : decode cX8_tells 67 = .ok (.iadd, 1) := by decide +kernel
theorem dX8_tells_68 : decode cX8_tells 68 = .ok (.iaload, 1) := by decide +kernel
theorem dX8_tells_69 : decode cX8_tells 69 = .ok (.i2l, 1) := by decide +kernel
theorem dX8_tells_70 : decode cX8_tells 70 = .ok (.lastore, 1) := by decide +kernel
theorem dX8_tells_71 : decode cX8_tells 71 = .ok (.aload_n 0, 1) := by decide +kernel
theorem dX8_tells_72 : decode cX8_tells 72 = .ok (.getfield 105, 3) := by decide +kernel
theorem dX8_tells_75 : decode cX8_tells 75 = .ok (.iconst 4, 1) := by decide +kernel
theorem dX8_tells_76 : decode cX8_tells 76 = .ok (.aload_n 0, 1) := by decide +kernel
theorem dX8_tells_77 : decode cX8_tells 77 = .ok (.getfield 13, 3) := by decide +kernel
theorem dX8_tells_80 : decode cX8_tells 80 = .ok (.bipush 88, 2) := by decide +kernel
theorem dX8_tells_82 : decode cX8_tells 82 = .ok (.iload_n 2, 1) := by decide +kernel
theorem dX8_tells_83 : decode cX8_tells 83 = .ok (.iadd, 1) := by decide +kernel
theorem dX8_tells_84 : decode cX8_tells 84 = .ok (.iaload, 1) := by decide +kernel
theorem dX8_tells_85 : decode cX8_tells 85 = .ok (.i2l, 1) := by decide +kernel
theorem dX8_tells_86 : decode cX8_tells 86 = .ok (.lastore, 1) := by decide +kernel
theorem dX8_tells_87 : decode cX8_tells 87 = .ok (.aload_n 0, 1) := by decide +kernel
theorem dX8_tells_88 : decode cX8_tells 88 = .ok (.getfield 105, 3) := by decide +kernel
theorem dX8_tells_91 : decode cX8_tells 91 = .ok (.iconst 5, 1) := by decide +kernel
theorem dX8_tells_92 : decode cX8_tells 92 = .ok (.iload_n 3, 1) := by decide +kernel
theorem dX8_tells_93 : decode cX8_tells 93 = .ok (.i2l, 1) := by decide +kernel
theorem dX8_tells_94 : decode cX8_tells 94 = .ok (.lastore, 1) := by decide +kernel
theorem dX8_tells_95 : decode cX8_tells 95 = .ok (.aload_n 0, 1) := by decide +kernel
theorem dX8_tells_96 : decode cX8_tells 96 = .ok (.getfield 105, 3) := by decide +kernel
theorem dX8_tells_99 : decode cX8_tells 99 = .ok (.bipush 6, 2) := by decide +kernel
theorem dX8_tells_101 : decode cX8_tells 101 = .ok (.iload_n 3, 1) := by decide +kernel
theorem dX8_tells_102 : decode cX8_tells 102 = .ok (.iconst (-1), 1) := by decide +kernel
theorem dX8_tells_103 : decode cX8_tells 103 = .ok (.if_icmp .ne 9, 3) := by decide +kernel
theorem dX8_tells_106 : decode cX8_tells 106 = .ok (.ldc2_w 277, 3) := by decide +kernel
theorem dX8_tells_109 : decode cX8_tells 109 = .ok (.goto 13, 3) := by decide +kernel
theorem dX8_tells_112 : decode cX8_tells 112 = .ok (.aload_n 0, 1) := by decide +kernel
theorem dX8_tells_113 : decode cX8_tells 113 = .ok (.getfield 13, 3) := by decide +kernel
theorem dX8_tells_116 : decode cX8_tells 116 = .ok (.bipush 64, 2) := by decide +kernel
theorem dX8_tells_118 : decode cX8_tells 118 = .ok (.iload_n 3, 1) := by decide +kernel
theorem dX8_tells_119 : decode cX8_tells 119 = .ok (.iadd, 1) := by decide +kernel
theorem dX8_tells_120 : decode cX8_tells 120 = .ok (.iaload, 1) := by decide +kernel
theorem dX8_tells_121 : decode cX8_tells 121 = .ok (.i2l, 1) := by decide +kernel
theorem dX8_tells_122 : decode cX8_tells 122 = .ok (.lastore, 1) := by decide +kernel
theorem dX8_tells_123 : decode cX8_tells 123 = .ok (.aload_n 0, 1) := by decide +kernel
theorem dX8_tells_124 : decode cX8_tells 124 = .ok (.getfield 105, 3) := by decide +kernel
theorem dX8_tells_127 : decode cX8_tells 127 = .ok (.bipush 7, 2) := by decide +kernel
theorem dX8_tells_129 : decode cX8_tells 129 = .ok (.iload 4, 2) := by decide +kernel
theorem dX8_tells_131 : decode cX8_tells 131 = .ok (.i2l, 1) := by decide +kernel
theorem dX8_tells_132 : decode cX8_tells 132 = .ok (.lastore, 1) := by decide +kernel
theorem dX8_tells_133 : decode cX8_tells 133 = .ok (.aload_n 0, 1) := by decide +kernel
theorem dX8_tells_134 : decode cX8_tells 134 = .ok (.getfield 105, 3) := by decide +kernel
theorem dX8_tells_137 : decode cX8_tells 137 = .ok (.bipush 8, 2) := by decide +kernel
theorem dX8_tells_139 : decode cX8_tells 139 = .ok (.iload 5, 2) := by decide +kernel
theorem dX8_tells_141 : decode cX8_tells 141 = .ok (.i2l, 1) := by decide +kernel
theorem dX8_tells_142 : decode cX8_tells 142 = .ok (.lastore, 1) := by decide +kernel
theorem dX8_tells_143 : decode cX8_tells 143 = .ok (.aload_n 0, 1) := by decide +kernel
theorem dX8_tells_144 : decode cX8_tells 144 = .ok (.getfield 105, 3) := by decide +kernel
theorem dX8_tells_147 : decode cX8_tells 147 = .ok (.bipush 9, 2) := by decide +kernel
theorem dX8_tells_149 : decode cX8_tells 149 = .ok (.iload 6, 2) := by decide +kernel
theorem dX8_tells_151 : decode cX8_tells 151 = .ok (.i2l, 1) := by decide +kernel
theorem dX8_tells_152 : decode cX8_tells 152 = .ok (.lastore, 1) := by decide +kernel
theorem dX8_tells_153 : decode cX8_tells 153 = .ok (.aload_n 0, 1) := by decide +kernel
theorem dX8_tells_154 : decode cX8_tells 154 = .ok (.getfield 105, 3) := by decide +kernel
theorem dX8_tells_157 : decode cX8_tells 157 = .ok (.bipush 10, 2) := by decide +kernel
theorem dX8_tells_159 : decode cX8_tells 159 = .ok (.aload_n 0, 1) := by decide +kernel
theorem dX8_tells_160 : decode cX8_tells 160 = .ok (.getfield 13, 3) := by decide +kernel
theorem dX8_tells_163 : decode cX8_tells 163 = .ok (.iconst 5, 1) := by decide +kernel
theorem dX8_tells_164 : decode cX8_tells 164 = .ok (.iaload, 1) := by decide +kernel
theorem dX8_tells_165 : decode cX8_tells 165 = .ok (.i2l, 1) := by decide +kernel
theorem dX8_tells_166 : decode cX8_tells 166 = .ok (.lastore, 1) := by decide +kernel
theorem dX8_tells_167 : decode cX8_tells 167 = .ok (.aload_n 0, 1) := by decide +kernel
theorem dX8_tells_168 : decode cX8_tells 168 = .ok (.getfield 105, 3) := by decide +kernel
theorem dX8_tells_171 : decode cX8_tells 171 = .ok (.bipush 11, 2) := by decide +kernel
theorem dX8_tells_173 : decode cX8_tells 173 = .ok (.aload_n 0, 1) := by decide +kernel
theorem dX8_tells_174 : decode cX8_tells 174 = .ok (.getfield 13, 3) := by decide +kernel
theorem dX8_tells_177 : decode cX8_tells 177 = .ok (.bipush 6, 2) := by decide +kernel
theorem dX8_tells_179 : decode cX8_tells 179 = .ok (.iaload, 1) := by decide +kernel
theorem dX8_tells_180 : decode cX8_tells 180 = .ok (.i2l, 1) := by decide +kernel
theorem dX8_tells_181 : decode cX8_tells 181 = .ok (.lastore, 1) := by decide +kernel
theorem dX8_tells_182 : decode cX8_tells 182 = .ok (.lload 7, 2) := by decide +kernel
theorem dX8_tells_184 : decode cX8_tells 184 = .ok (.lstore 9, 2) := by decide +kernel
theorem dX8_tells_186 : decode cX8_tells 186 = .ok (.iconst 0, 1) := by decide +kernel
theorem dX8_tells_187 : decode cX8_tells 187 = .ok (.istore 11, 2) := by decide +kernel
theorem dX8_tells_189 : decode cX8_tells 189 = .ok (.iload 11, 2) := by decide +kernel
theorem dX8_tells_191 : decode cX8_tells 191 = .ok (.aload_n 0, 1) := by decide +kernel
theorem dX8_tells_192 : decode cX8_tells 192 = .ok (.getfield 13, 3) := by decide +kernel
theorem dX8_tells_195 : decode cX8_tells 195 = .ok (.aload_n 0, 1) := by decide +kernel
theorem dX8_tells_196 : decode cX8_tells 196 = .ok (.getfield 401, 3) := by decide +kernel
theorem dX8_tells_199 : decode cX8_tells 199 = .ok (.iconst 1, 1) := by decide +kernel
theorem dX8_tells_200 : decode cX8_tells 200 = .ok (.iadd, 1) := by decide +kernel
theorem dX8_tells_201 : decode cX8_tells 201 = .ok (.iaload, 1) := by decide +kernel
theorem dX8_tells_202 : decode cX8_tells 202 = .ok (.if_icmp .ge 58, 3) := by decide +kernel
theorem dX8_tells_205 : decode cX8_tells 205 = .ok (.aload_n 0, 1) := by decide +kernel
theorem dX8_tells_206 : decode cX8_tells 206 = .ok (.getfield 401, 3) := by decide +kernel
theorem dX8_tells_209 : decode cX8_tells 209 = .ok (.iconst 2, 1) := by decide +kernel
theorem dX8_tells_210 : decode cX8_tells 210 = .ok (.iadd, 1) := by decide +kernel
theorem dX8_tells_211 : decode cX8_tells 211 = .ok (.bipush 8, 2) := by decide +kernel
theorem dX8_tells_213 : decode cX8_tells 213 = .ok (.iload 11, 2) := by decide +kernel
theorem dX8_tells_215 : decode cX8_tells 215 = .ok (.imul, 1) := by decide +kernel
theorem dX8_tells_216 : decode cX8_tells 216 = .ok (.iadd, 1) := by decide +kernel
theorem dX8_tells_217 : decode cX8_tells 217 = .ok (.istore 12, 2) := by decide +kernel
theorem dX8_tells_219 : decode cX8_tells 219 = .ok (.aload_n 0, 1) := by decide +kernel
theorem dX8_tells_220 : decode cX8_tells 220 = .ok (.getfield 13, 3) := by decide +kernel
theorem dX8_tells_223 : decode cX8_tells 223 = .ok (.iload 12, 2) := by decide +kernel
theorem dX8_tells_225 : decode cX8_tells 225 = .ok (.iaload, 1) := by decide +kernel
theorem dX8_tells_226 : decode cX8_tells 226 = .ok (.iload_n 1, 1) := by decide +kernel
theorem dX8_tells_227 : decode cX8_tells 227 = .ok (.if_icmp .ne 27, 3) := by decide +kernel
theorem dX8_tells_230 : decode cX8_tells 230 = .ok (.aload_n 0, 1) := by decide +kernel
theorem dX8_tells_231 : decode cX8_tells 231 = .ok (.iload 12, 2) := by decide +kernel
theorem dX8_tells_233 : decode cX8_tells 233 = .ok (.invokevirtual 421, 3) := by decide +kernel
theorem dX8_tells_236 : decode cX8_tells 236 = .ok (.ifCond .eq 18, 3) := by decide +kernel
theorem dX8_tells_239 : decode cX8_tells 239 = .ok (.iload_n 1, 1) := by decide +kernel
theorem dX8_tells_240 : decode cX8_tells 240 = .ok (.iconst 2, 1) := by decide +kernel
theorem dX8_tells_241 : decode cX8_tells 241 = .ok (.if_icmp .ge 10, 3) := by decide +kernel
theorem dX8_tells_244 : decode cX8_tells 244 = .ok (.aload_n 0, 1) := by decide +kernel
theorem dX8_tells_245 : decode cX8_tells 245 = .ok (.getfield 418, 3) := by decide +kernel
theorem dX8_tells_248 : decode cX8_tells 248 = .ok (.goto 4, 3) := by decide +kernel
theorem dX8_tells_251 : decode cX8_tells 251 = .ok (.lconst 1, 1) := by decide +kernel
theorem dX8_tells_252 : decode cX8_tells 252 = .ok (.lstore 9, 2) := by decide +kernel
theorem dX8_tells_254 : decode cX8_tells 254 = .ok (.iinc 11 1, 3) := by decide +kernel
theorem dX8_tells_257 : decode cX8_tells 257 = .ok (.goto (-68), 3) := by decide +kernel
theorem dX8_tells_260 : decode cX8_tells 260 = .ok (.lload 9, 2) := by decide +kernel
theorem dX8_tells_262 : decode cX8_tells 262 = .ok (.lreturn, 1) := by decide +kernel
theorem dX8_tellsFits_0 : decode cX8_tellsFits 0 = .ok (.iconst 0, 1) := by decide +kernel
theorem dX8_tellsFits_1 : decode cX8_tellsFits 1 = .ok (.istore_n 1, 1) := by decide +kernel
theorem dX8_tellsFits_2 : decode cX8_tellsFits 2 = .ok (.iconst 0, 1) := by decide +kernel
theorem dX8_tellsFits_3 : decode cX8_tellsFits 3 = .ok (.istore_n 2, 1) := by decide +kernel
theorem dX8_tellsFits_4 : decode cX8_tellsFits 4 = .ok (.aload_n 0, 1) := by decide +kernel
theorem dX8_tellsFits_5 : decode cX8_tellsFits 5 = .ok (.getfield 13, 3) := by decide +kernel
theorem dX8_tellsFits_8 : decode cX8_tellsFits 8 = .ok (.iconst 4, 1) := by decide +kernel
theorem dX8_tellsFits_9 : decode cX8_tellsFits 9 = .ok (.iaload, 1) := by decide +kernel
theorem dX8_tellsFits_10 : decode cX8_tellsFits 10 = .ok (.iconst (-1), 1) := by decide +kernel
theorem dX8_tellsFits_11 : decode cX8_tellsFits 11 = .ok (.if_icmp .eq 74, 3) := by decide +kernel
theorem dX8_tellsFits_14 : decode cX8_tellsFits 14 = .ok (.iload_n 2, 1) := by decide +kernel
theorem dX8_tellsFits_15 : decode cX8_tellsFits 15 = .ok (.aload_n 0, 1) := by decide +kernel
theorem dX8_tellsFits_16 : decode cX8_tellsFits 16 = .ok (.getfield 13, 3) := by decide +kernel
theorem dX8_tellsFits_19 : decode cX8_tellsFits 19 = .ok (.sipush 140, 3) := by decide +kernel
theorem dX8_tellsFits_22 : decode cX8_tellsFits 22 = .ok (.sipush 900, 3) := by decide +kernel
theorem dX8_tellsFits_25 : decode cX8_tellsFits 25 = .ok (.aload_n 0, 1) := by decide +kernel
theorem dX8_tellsFits_26 : decode cX8_tellsFits 26 = .ok (.getfield 13, 3) := by decide +kernel
theorem dX8_tellsFits_29 : decode cX8_tellsFits 29 = .ok (.iconst 4, 1) := by decide +kernel
theorem dX8_tellsFits_30 : decode cX8_tellsFits 30 = .ok (.iaload, 1) := by decide +kernel
theorem dX8_tellsFits_31 : decode cX8_tellsFits 31 = .ok (.imul, 1) := by decide +kernel
theorem dX8_tellsFits_32 : decode cX8_tellsFits 32 = .ok (.iadd, 1) := by decide +kernel
theorem dX8_tellsFits_33 : decode cX8_tellsFits 33 = .ok (.iconst 1, 1) := by decide +kernel
theorem dX8_tellsFits_34 : decode cX8_tellsFits 34 = .ok (.iadd, 1) := by decide +kernel
theorem dX8_tellsFits_35 : decode cX8_tellsFits 35 = .ok (.iaload, 1) := by decide +kernel
theorem dX8_tellsFits_36 : decode cX8_tellsFits 36 = .ok (.if_icmp .ge 49, 3) := by decide +kernel
theorem dX8_tellsFits_39 : decode cX8_tellsFits 39 = .ok (.iload_n 1, 1) := by decide +kernel
theorem dX8_tellsFits_40 : decode cX8_tellsFits 40 = .ok (.ifCond .ne 33, 3) := by decide +kernel
theorem dX8_tellsFits_43 : decode cX8_tellsFits 43 = .ok (.aload_n 0, 1) := by decide +kernel
theorem dX8_tellsFits_44 : decode cX8_tellsFits 44 = .ok (.getfield 13, 3) := by decide +kernel
theorem dX8_tellsFits_47 : decode cX8_tellsFits 47 = .ok (.sipush 140, 3) := by decide +kernel
theorem dX8_tellsFits_50 : decode cX8_tellsFits 50 = .ok (.sipush 900, 3) := by decide +kernel
theorem dX8_tellsFits_53 : decode cX8_tellsFits 53 = .ok (.aload_n 0, 1) := by decide +kernel
theorem dX8_tellsFits_54 : decode cX8_tellsFits 54 = .ok (.getfield 13, 3) := by decide +kernel
theorem dX8_tellsFits_57 : decode cX8_tellsFits 57 = .ok (.iconst 4, 1) := by decide +kernel
theorem dX8_tellsFits_58 : decode cX8_tellsFits 58 = .ok (.iaload, 1) := by decide +kernel
theorem dX8_tellsFits_59 : decode cX8_tellsFits 59 = .ok (.imul, 1) := by decide +kernel
theorem dX8_tellsFits_60 : decode cX8_tellsFits 60 = .ok (.iadd, 1) := by decide +kernel
theorem dX8_tellsFits_61 : decode cX8_tellsFits 61 = .ok (.iconst 2, 1) := by decide +kernel
theorem dX8_tellsFits_62 : decode cX8_tellsFits 62 = .ok (.iadd, 1) := by decide +kernel
theorem dX8_tellsFits_63 : decode cX8_tellsFits 63 = .ok (.bipush 8, 2) := by decide +kernel
theorem dX8_tellsFits_65 : decode cX8_tellsFits 65 = .ok (.iload_n 2, 1) := by decide +kernel
theorem dX8_tellsFits_66 : decode cX8_tellsFits 66 = .ok (.imul, 1) := by decide +kernel
theorem dX8_tellsFits_67 : decode cX8_tellsFits 67 = .ok (.iadd, 1) := by decide +kernel
theorem dX8_tellsFits_68 : decode cX8_tellsFits 68 = .ok (.iaload, 1) := by decide +kernel
theorem dX8_tellsFits_69 : decode cX8_tellsFits 69 = .ok (.iconst 2, 1) := by decide +kernel
theorem dX8_tellsFits_70 : decode cX8_tellsFits 70 = .ok (.if_icmp .ne 7, 3) := by decide +kernel
theorem dX8_tellsFits_73 : decode cX8_tellsFits 73 = .ok (.iconst 1, 1) := by decide +kernel
theorem dX8_tellsFits_74 : decode cX8_tellsFits 74 = .ok (.goto 4, 3) := by decide +kernel
theorem dX8_tellsFits_77 : decode cX8_tellsFits 77 = .ok (.iconst 0, 1) := by decide +kernel
theorem dX8_tellsFits_78 : decode cX8_tellsFits 78 = .ok (.istore_n 1, 1) := by decide +kernel
theorem dX8_tellsFits_79 : decode cX8_tellsFits 79 = .ok (.iinc 2 1, 3) := by decide +kernel
theorem dX8_tellsFits_82 : decode cX8_tellsFits 82 = .ok (.goto (-78), 3) := by decide +kernel
theorem dX8_tellsFits_85 : decode cX8_tellsFits 85 = .ok (.iload_n 1, 1) := by decide +kernel
theorem dX8_tellsFits_86 : decode cX8_tellsFits 86 = .ok (.ireturn, 1) := by decide +kernel
theorem dX8_catches_0 : decode cX8_catches 0 = .ok (.aload_n 0, 1) := by decide +kernel
theorem dX8_catches_1 : decode cX8_catches 1 = .ok (.iconst 0, 1) := by decide +kernel
theorem dX8_catches_2 : decode cX8_catches 2 = .ok (.iload_n 1, 1) := by decide +kernel
theorem dX8_catches_3 : decode cX8_catches 3 = .ok (.iconst (-1), 1) := by decide +kernel
theorem dX8_catches_4 : decode cX8_catches 4 = .ok (.iload_n 2, 1) := by decide +kernel
theorem dX8_catches_5 : decode cX8_catches 5 = .ok (.iload_n 3, 1) := by decide +kernel
theorem dX8_catches_6 : decode cX8_catches 6 = .ok (.iload 4, 2) := by decide +kernel
theorem dX8_catches_8 : decode cX8_catches 8 = .ok (.ldc2_w 192, 3) := by decide +kernel
theorem dX8_catches_11 : decode cX8_catches 11 = .ok (.aload_n 0, 1) := by decide +kernel
theorem dX8_catches_12 : decode cX8_catches 12 = .ok (.getfield 13, 3) := by decide +kernel
theorem dX8_catches_15 : decode cX8_catches 15 = .ok (.bipush 72, 2) := by decide +kernel
theorem dX8_catches_17 : decode cX8_catches 17 = .ok (.iload_n 1, 1) := by decide +kernel
theorem dX8_catches_18 : decode cX8_catches 18 = .ok (.iadd, 1) := by decide +kernel
theorem dX8_catches_19 : decode cX8_catches 19 = .ok (.iaload, 1) := by decide +kernel
theorem dX8_catches_20 : decode cX8_catches 20 = .ok (.i2l, 1) := by decide +kernel
theorem dX8_catches_21 : decode cX8_catches 21 = .ok (.lmul, 1) := by decide +kernel
theorem dX8_catches_22 : decode cX8_catches 22 = .ok (.invokevirtual 424, 3) := by decide +kernel
theorem dX8_catches_25 : decode cX8_catches 25 = .ok (.iconst 0, 1) := by decide +kernel
theorem dX8_catches_26 : decode cX8_catches 26 = .ok (.bipush 99, 2) := by decide +kernel
theorem dX8_catches_28 : decode cX8_catches 28 = .ok (.invokestatic 428, 3) := by decide +kernel
theorem dX8_catches_31 : decode cX8_catches 31 = .ok (.istore 5, 2) := by decide +kernel
theorem dX8_catches_33 : decode cX8_catches 33 = .ok (.iload 5, 2) := by decide +kernel
theorem dX8_catches_35 : decode cX8_catches 35 = .ok (.iload_n 3, 1) := by decide +kernel
theorem dX8_catches_36 : decode cX8_catches 36 = .ok (.if_icmp .ge 8, 3) := by decide +kernel
theorem dX8_catches_39 : decode cX8_catches 39 = .ok (.iload 5, 2) := by decide +kernel
theorem dX8_catches_41 : decode cX8_catches 41 = .ok (.goto 4, 3) := by decide +kernel
theorem dX8_catches_44 : decode cX8_catches 44 = .ok (.iload_n 3, 1) := by decide +kernel
theorem dX8_catches_45 : decode cX8_catches 45 = .ok (.ireturn, 1) := by decide +kernel
theorem dX8_slams_0 : decode cX8_slams 0 = .ok (.aload_n 0, 1) := by decide +kernel
theorem dX8_slams_1 : decode cX8_slams 1 = .ok (.iconst 1, 1) := by decide +kernel
theorem dX8_slams_2 : decode cX8_slams 2 = .ok (.iload_n 1, 1) := by decide +kernel
theorem dX8_slams_3 : decode cX8_slams 3 = .ok (.iconst (-1), 1) := by decide +kernel
theorem dX8_slams_4 : decode cX8_slams 4 = .ok (.iload_n 2, 1) := by decide +kernel
theorem dX8_slams_5 : decode cX8_slams 5 = .ok (.aload_n 0, 1) := by decide +kernel
theorem dX8_slams_6 : decode cX8_slams 6 = .ok (.getfield 13, 3) := by decide +kernel
theorem dX8_slams_9 : decode cX8_slams 9 = .ok (.bipush 39, 2) := by decide +kernel
theorem dX8_slams_11 : decode cX8_slams 11 = .ok (.iload_n 2, 1) := by decide +kernel
theorem dX8_slams_12 : decode cX8_slams 12 = .ok (.iadd, 1) := by decide +kernel
theorem dX8_slams_13 : decode cX8_slams 13 = .ok (.iaload, 1) := by decide +kernel
theorem dX8_slams_14 : decode cX8_slams 14 = .ok (.aload_n 0, 1) := by decide +kernel
theorem dX8_slams_15 : decode cX8_slams 15 = .ok (.getfield 13, 3) := by decide +kernel
theorem dX8_slams_18 : decode cX8_slams 18 = .ok (.bipush 23, 2) := by decide +kernel
theorem dX8_slams_20 : decode cX8_slams 20 = .ok (.iload_n 1, 1) := by decide +kernel
theorem dX8_slams_21 : decode cX8_slams 21 = .ok (.iadd, 1) := by decide +kernel
theorem dX8_slams_22 : decode cX8_slams 22 = .ok (.iaload, 1) := by decide +kernel
theorem dX8_slams_23 : decode cX8_slams 23 = .ok (.lconst 1, 1) := by decide +kernel
theorem dX8_slams_24 : decode cX8_slams 24 = .ok (.invokevirtual 424, 3) := by decide +kernel
theorem dX8_slams_27 : decode cX8_slams 27 = .ok (.iconst 0, 1) := by decide +kernel
theorem dX8_slams_28 : decode cX8_slams 28 = .ok (.bipush 10, 2) := by decide +kernel
theorem dX8_slams_30 : decode cX8_slams 30 = .ok (.invokestatic 428, 3) := by decide +kernel
theorem dX8_slams_33 : decode cX8_slams 33 = .ok (.ireturn, 1) := by decide +kernel
theorem dX8_fits_0 : decode cX8_fits 0 = .ok (.aload_n 0, 1) := by decide +kernel
theorem dX8_fits_1 : decode cX8_fits 1 = .ok (.invokevirtual 432, 3) := by decide +kernel
theorem dX8_fits_4 : decode cX8_fits 4 = .ok (.ifCond .eq 33, 3) := by decide +kernel
theorem dX8_fits_7 : decode cX8_fits 7 = .ok (.aload_n 0, 1) := by decide +kernel
theorem dX8_fits_8 : decode cX8_fits 8 = .ok (.iconst 2, 1) := by decide +kernel
theorem dX8_fits_9 : decode cX8_fits 9 = .ok (.iload_n 1, 1) := by decide +kernel
theorem dX8_fits_10 : decode cX8_fits 10 = .ok (.iload_n 2, 1) := by decide +kernel
theorem dX8_fits_11 : decode cX8_fits 11 = .ok (.iconst (-1), 1) := by decide +kernel
theorem dX8_fits_12 : decode cX8_fits 12 = .ok (.iconst (-1), 1) := by decide +kernel
theorem dX8_fits_13 : decode cX8_fits 13 = .ok (.aload_n 0, 1) := by decide +kernel
theorem dX8_fits_14 : decode cX8_fits 14 = .ok (.getfield 13, 3) := by decide +kernel
theorem dX8_fits_17 : decode cX8_fits 17 = .ok (.bipush 23, 2) := by decide +kernel
theorem dX8_fits_19 : decode cX8_fits 19 = .ok (.iload_n 1, 1) := by decide +kernel
theorem dX8_fits_20 : decode cX8_fits 20 = .ok (.iadd, 1) := by decide +kernel
theorem dX8_fits_21 : decode cX8_fits 21 = .ok (.iaload, 1) := by decide +kernel
theorem dX8_fits_22 : decode cX8_fits 22 = .ok (.lconst 0, 1) := by decide +kernel
theorem dX8_fits_23 : decode cX8_fits 23 = .ok (.invokevirtual 424, 3) := by decide +kernel
theorem dX8_fits_26 : decode cX8_fits 26 = .ok (.lconst 1, 1) := by decide +kernel
theorem dX8_fits_27 : decode cX8_fits 27 = .ok (.lcmp, 1) := by decide +kernel
theorem dX8_fits_28 : decode cX8_fits 28 = .ok (.ifCond .ne 7, 3) := by decide +kernel
theorem dX8_fits_31 : decode cX8_fits 31 = .ok (.iconst 1, 1) := by decide +kernel
theorem dX8_fits_32 : decode cX8_fits 32 = .ok (.goto 4, 3) := by decide +kernel
theorem dX8_fits_35 : decode cX8_fits 35 = .ok (.iconst 0, 1) := by decide +kernel
theorem dX8_fits_36 : decode cX8_fits 36 = .ok (.ireturn, 1) := by decide +kernel
theorem dX8_fits_37 : decode cX8_fits 37 = .ok (.aload_n 0, 1) := by decide +kernel
theorem dX8_fits_38 : decode cX8_fits 38 = .ok (.getfield 13, 3) := by decide +kernel
theorem dX8_fits_41 : decode cX8_fits 41 = .ok (.bipush 72, 2) := by decide +kernel
theorem dX8_fits_43 : decode cX8_fits 43 = .ok (.iload_n 1, 1) := by decide +kernel
theorem dX8_fits_44 : decode cX8_fits 44 = .ok (.iadd, 1) := by decide +kernel
theorem dX8_fits_45 : decode cX8_fits 45 = .ok (.iaload, 1) := by decide +kernel
theorem dX8_fits_46 : decode cX8_fits 46 = .ok (.aload_n 0, 1) := by decide +kernel
theorem dX8_fits_47 : decode cX8_fits 47 = .ok (.getfield 13, 3) := by decide +kernel
theorem dX8_fits_50 : decode cX8_fits 50 = .ok (.bipush 64, 2) := by decide +kernel
theorem dX8_fits_52 : decode cX8_fits 52 = .ok (.iload_n 2, 1) := by decide +kernel
theorem dX8_fits_53 : decode cX8_fits 53 = .ok (.iadd, 1) := by decide +kernel
theorem dX8_fits_54 : decode cX8_fits 54 = .ok (.iaload, 1) := by decide +kernel
theorem dX8_fits_55 : decode cX8_fits 55 = .ok (.isub, 1) := by decide +kernel
theorem dX8_fits_56 : decode cX8_fits 56 = .ok (.i2l, 1) := by decide +kernel
theorem dX8_fits_57 : decode cX8_fits 57 = .ok (.ldc2_w 277, 3) := by decide +kernel
theorem dX8_fits_60 : decode cX8_fits 60 = .ok (.lconst 1, 1) := by decide +kernel
theorem dX8_fits_61 : decode cX8_fits 61 = .ok (.invokestatic 181, 3) := by decide +kernel
theorem dX8_fits_64 : decode cX8_fits 64 = .ok (.ireturn, 1) := by decide +kernel
theorem dX8_isBarred_0 : decode cX8_isBarred 0 = .ok (.aload_n 0, 1) := by decide +kernel
theorem dX8_isBarred_1 : decode cX8_isBarred 1 = .ok (.iconst 3, 1) := by decide +kernel
theorem dX8_isBarred_2 : decode cX8_isBarred 2 = .ok (.iload_n 1, 1) := by decide +kernel
theorem dX8_isBarred_3 : decode cX8_isBarred 3 = .ok (.aload_n 0, 1) := by decide +kernel
theorem dX8_isBarred_4 : decode cX8_isBarred 4 = .ok (.getfield 13, 3) := by decide +kernel
theorem dX8_isBarred_7 : decode cX8_isBarred 7 = .ok (.bipush 7, 2) := by decide +kernel
theorem dX8_isBarred_9 : decode cX8_isBarred 9 = .ok (.iload_n 1, 1) := by decide +kernel
theorem dX8_isBarred_10 : decode cX8_isBarred 10 = .ok (.iadd, 1) := by decide +kernel
theorem dX8_isBarred_11 : decode cX8_isBarred 11 = .ok (.iaload, 1) := by decide +kernel
theorem dX8_isBarred_12 : decode cX8_isBarred 12 = .ok (.iconst (-1), 1) := by decide +kernel
theorem dX8_isBarred_13 : decode cX8_isBarred 13 = .ok (.iconst (-1), 1) := by decide +kernel
theorem dX8_isBarred_14 : decode cX8_isBarred 14 = .ok (.aload_n 0, 1) := by decide +kernel
theorem dX8_isBarred_15 : decode cX8_isBarred 15 = .ok (.getfield 13, 3) := by decide +kernel
theorem dX8_isBarred_18 : decode cX8_isBarred 18 = .ok (.bipush 23, 2) := by decide +kernel
theorem dX8_isBarred_20 : decode cX8_isBarred 20 = .ok (.iload_n 1, 1) := by decide +kernel
theorem dX8_isBarred_21 : decode cX8_isBarred 21 = .ok (.iadd, 1) := by decide +kernel
theorem dX8_isBarred_22 : decode cX8_isBarred 22 = .ok (.iaload, 1) := by decide +kernel
theorem dX8_isBarred_23 : decode cX8_isBarred 23 = .ok (.lconst 0, 1) := by decide +kernel
theorem dX8_isBarred_24 : decode cX8_isBarred 24 = .ok (.invokevirtual 424, 3) := by decide +kernel
theorem dX8_isBarred_27 : decode cX8_isBarred 27 = .ok (.lconst 1, 1) := by decide +kernel
theorem dX8_isBarred_28 : decode cX8_isBarred 28 = .ok (.lcmp, 1) := by decide +kernel
theorem dX8_isBarred_29 : decode cX8_isBarred 29 = .ok (.ifCond .ne 7, 3) := by decide +kernel
theorem dX8_isBarred_32 : decode cX8_isBarred 32 = .ok (.iconst 1, 1) := by decide +kernel
theorem dX8_isBarred_33 : decode cX8_isBarred 33 = .ok (.goto 4, 3) := by decide +kernel
theorem dX8_isBarred_36 : decode cX8_isBarred 36 = .ok (.iconst 0, 1) := by decide +kernel
theorem dX8_isBarred_37 : decode cX8_isBarred 37 = .ok (.ireturn, 1) := by decide +kernel
theorem dX8_launchNow_0 : decode cX8_launchNow 0 = .ok (.aload_n 0, 1) := by decide +kernel
theorem dX8_launchNow_1 : decode cX8_launchNow 1 = .ok (.iload_n 1, 1) := by decide +kernel
theorem dX8_launchNow_2 : decode cX8_launchNow 2 = .ok (.invokevirtual 203, 3) := by decide +kernel
theorem dX8_launchNow_5 : decode cX8_launchNow 5 = .ok (.ifCond .ne 6, 3) := by decide +kernel
theorem dX8_launchNow_8 : decode cX8_launchNow 8 = .ok (.bipush (-2), 2) := by decide +kernel
theorem dX8_launchNow_10 : decode cX8_launchNow 10 = .ok (.ireturn, 1) := by decide +kernel
theorem dX8_launchNow_11 : decode cX8_launchNow 11 = .ok (.aload_n 0, 1) := by decide +kernel
theorem dX8_launchNow_12 : decode cX8_launchNow 12 = .ok (.getfield 13, 3) := by decide +kernel
theorem dX8_launchNow_15 : decode cX8_launchNow 15 = .ok (.bipush 7, 2) := by decide +kernel
theorem dX8_launchNow_17 : decode cX8_launchNow 17 = .ok (.iload_n 1, 1) := by decide +kernel
theorem dX8_launchNow_18 : decode cX8_launchNow 18 = .ok (.iadd, 1) := by decide +kernel
theorem dX8_launchNow_19 : decode cX8_launchNow 19 = .ok (.iaload, 1) := by decide +kernel
theorem dX8_launchNow_20 : decode cX8_launchNow 20 = .ok (.iconst (-1), 1) := by decide +kernel
theorem dX8_launchNow_21 : decode cX8_launchNow 21 = .ok (.if_icmp .eq 11, 3) := by decide +kernel
theorem dX8_launchNow_24 : decode cX8_launchNow 24 = .ok (.aload_n 0, 1) := by decide +kernel
theorem dX8_launchNow_25 : decode cX8_launchNow 25 = .ok (.iload_n 1, 1) := by decide +kernel
theorem dX8_launchNow_26 : decode cX8_launchNow 26 = .ok (.invokevirtual 206, 3) := by decide +kernel
theorem dX8_launchNow_29 : decode cX8_launchNow 29 = .ok (.ifCond .eq 6, 3) := by decide +kernel
theorem dX8_launchNow_32 : decode cX8_launchNow 32 = .ok (.bipush (-3), 2) := by decide +kernel
theorem dX8_launchNow_34 : decode cX8_launchNow 34 = .ok (.ireturn, 1) := by decide +kernel
theorem dX8_launchNow_35 : decode cX8_launchNow 35 = .ok (.aload_n 0, 1) := by decide +kernel
theorem dX8_launchNow_36 : decode cX8_launchNow 36 = .ok (.iconst 0, 1) := by decide +kernel
theorem dX8_launchNow_37 : decode cX8_launchNow 37 = .ok (.invokevirtual 435, 3) := by decide +kernel
theorem dX8_launchNow_40 : decode cX8_launchNow 40 = .ok (.aload_n 0, 1) := by decide +kernel
theorem dX8_launchNow_41 : decode cX8_launchNow 41 = .ok (.getfield 13, 3) := by decide +kernel
theorem dX8_launchNow_44 : decode cX8_launchNow 44 = .ok (.bipush 7, 2) := by decide +kernel
theorem dX8_launchNow_46 : decode cX8_launchNow 46 = .ok (.iload_n 1, 1) := by decide +kernel
theorem dX8_launchNow_47 : decode cX8_launchNow 47 = .ok (.iadd, 1) := by decide +kernel
theorem dX8_launchNow_48 : decode cX8_launchNow 48 = .ok (.iconst (-1), 1) := by decide +kernel
theorem dX8_launchNow_49 : decode cX8_launchNow 49 = .ok (.iastore, 1) := by decide +kernel
theorem dX8_launchNow_50 : decode cX8_launchNow 50 = .ok (.aload_n 0, 1) := by decide +kernel
theorem dX8_launchNow_51 : decode cX8_launchNow 51 = .ok (.getfield 13, 3) := by decide +kernel
theorem dX8_launchNow_54 : decode cX8_launchNow 54 = .ok (.bipush 15, 2) := by decide +kernel
theorem dX8_launchNow_56 : decode cX8_launchNow 56 = .ok (.iload_n 1, 1) := by decide +kernel
theorem dX8_launchNow_57 : decode cX8_launchNow 57 = .ok (.iadd, 1) := by decide +kernel
theorem dX8_launchNow_58 : decode cX8_launchNow 58 = .ok (.iconst 0, 1) := by decide +kernel
theorem dX8_launchNow_59 : decode cX8_launchNow 59 = .ok (.iastore, 1) := by decide +kernel
theorem dX8_launchNow_60 : decode cX8_launchNow 60 = .ok (.iconst 0, 1) := by decide +kernel
theorem dX8_launchNow_61 : decode cX8_launchNow 61 = .ok (.ireturn, 1) := by decide +kernel
theorem dX8_launch_0 : decode cX8_launch 0 = .ok (.aload_n 0, 1) := by decide +kernel
theorem dX8_launch_1 : decode cX8_launch 1 = .ok (.iconst 0, 1) := by decide +kernel
theorem dX8_launch_2 : decode cX8_launch 2 = .ok (.putfield 161, 3) := by decide +kernel
theorem dX8_launch_5 : decode cX8_launch 5 = .ok (.aload_n 0, 1) := by decide +kernel
theorem dX8_launch_6 : decode cX8_launch 6 = .ok (.aload_n 0, 1) := by decide +kernel
theorem dX8_launch_7 : decode cX8_launch 7 = .ok (.iload_n 1, 1) := by decide +kernel
theorem dX8_launch_8 : decode cX8_launch 8 = .ok (.invokevirtual 438, 3) := by decide +kernel
theorem dX8_launch_11 : decode cX8_launch 11 = .ok (.invokevirtual 170, 3) := by decide +kernel
theorem dX8_launch_14 : decode cX8_launch 14 = .ok (.ireturn, 1) := by decide +kernel
theorem dX8_sailNow_0 : decode cX8_sailNow 0 = .ok (.iload_n 2, 1) := by decide +kernel
theorem dX8_sailNow_1 : decode cX8_sailNow 1 = .ok (.i2l, 1) := by decide +kernel
theorem dX8_sailNow_2 : decode cX8_sailNow 2 = .ok (.lconst 1, 1) := by decide +kernel
theorem dX8_sailNow_3 : decode cX8_sailNow 3 = .ok (.ldc2_w 215, 3) := by decide +kernel
theorem dX8_sailNow_6 : decode cX8_sailNow 6 = .ok (.invokestatic 181, 3) := by decide +kernel
theorem dX8_sailNow_9 : decode cX8_sailNow 9 = .ok (.ifCond .ne 5, 3) := by decide +kernel
theorem dX8_sailNow_12 : decode cX8_sailNow 12 = .ok (.iconst (-1), 1) := by decide +kernel
theorem dX8_sailNow_13 : decode cX8_sailNow 13 = .ok (.ireturn, 1) := by decide +kernel
theorem dX8_sailNow_14 : decode cX8_sailNow 14 = .ok (.aload_n 0, 1) := by decide +kernel
theorem dX8_sailNow_15 : decode cX8_sailNow 15 = .ok (.iload_n 1, 1) := by decide +kernel
theorem dX8_sailNow_16 : decode cX8_sailNow 16 = .ok (.invokevirtual 203, 3) := by decide +kernel
theorem dX8_sailNow_19 : decode cX8_sailNow 19 = .ok (.ifCond .ne 6, 3) := by decide +kernel
theorem dX8_sailNow_22 : decode cX8_sailNow 22 = .ok (.bipush (-2), 2) := by decide +kernel
theorem dX8_sailNow_24 : decode cX8_sailNow 24 = .ok (.ireturn, 1) := by decide +kernel
theorem dX8_sailNow_25 : decode cX8_sailNow 25 = .ok (.aload_n 0, 1) := by decide +kernel
theorem dX8_sailNow_26 : decode cX8_sailNow 26 = .ok (.iload_n 1, 1) := by decide +kernel
theorem dX8_sailNow_27 : decode cX8_sailNow 27 = .ok (.invokevirtual 441, 3) := by decide +kernel
theorem dX8_sailNow_30 : decode cX8_sailNow 30 = .ok (.ifCond .eq 20, 3) := by decide +kernel
theorem dX8_sailNow_33 : decode cX8_sailNow 33 = .ok (.aload_n 0, 1) := by decide +kernel
theorem dX8_sailNow_34 : decode cX8_sailNow 34 = .ok (.getfield 13, 3) := by decide +kernel
theorem dX8_sailNow_37 : decode cX8_sailNow 37 = .ok (.bipush 15, 2) := by decide +kernel
theorem dX8_sailNow_39 : decode cX8_sailNow 39 = .ok (.iload_n 1, 1) := by decide +kernel
theorem dX8_sailNow_40 : decode cX8_sailNow 40 = .ok (.iadd, 1) := by decide +kernel
theorem dX8_sailNow_41 : decode cX8_sailNow 41 = .ok (.iaload, 1) := by decide +kernel
theorem dX8_sailNow_42 : decode cX8_sailNow 42 = .ok (.iload_n 2, 1) := by decide +kernel
theorem dX8_sailNow_43 : decode cX8_sailNow 43 = .ok (.invokestatic 444, 3) := by decide +kernel
theorem dX8_sailNow_46 : decode cX8_sailNow 46 = .ok (.iconst (-1), 1) := by decide +kernel
theorem dX8_sailNow_47 : decode cX8_sailNow 47 = .ok (.if_icmp .ne 6, 3) := by decide +kernel
theorem dX8_sailNow_50 : decode cX8_sailNow 50 = .ok (.bipush (-3), 2) := by decide +kernel
theorem dX8_sailNow_52 : decode cX8_sailNow 52 = .ok (.ireturn, 1) := by decide +kernel
theorem dX8_sailNow_53 : decode cX8_sailNow 53 = .ok (.aload_n 0, 1) := by decide +kernel
theorem dX8_sailNow_54 : decode cX8_sailNow 54 = .ok (.iconst 1, 1) := by decide +kernel
theorem dX8_sailNow_55 : decode cX8_sailNow 55 = .ok (.invokevirtual 435, 3) := by decide +kernel
theorem dX8_sailNow_58 : decode cX8_sailNow 58 = .ok (.aload_n 0, 1) := by decide +kernel
theorem dX8_sailNow_59 : decode cX8_sailNow 59 = .ok (.getfield 13, 3) := by decide +kernel
theorem dX8_sailNow_62 : decode cX8_sailNow 62 = .ok (.bipush 15, 2) := by decide +kernel
theorem dX8_sailNow_64 : decode cX8_sailNow 64 = .ok (.iload_n 1, 1) := by decide +kernel
theorem dX8_sailNow_65 : decode cX8_sailNow 65 = .ok (.iadd, 1) := by decide +kernel
theorem dX8_sailNow_66 : decode cX8_sailNow 66 = .ok (.aload_n 0, 1) := by decide +kernel
theorem dX8_sailNow_67 : decode cX8_sailNow 67 = .ok (.getfield 13, 3) := by decide +kernel
theorem dX8_sailNow_70 : decode cX8_sailNow 70 = .ok (.bipush 15, 2) := by decide +kernel
theorem dX8_sailNow_72 : decode cX8_sailNow 72 = .ok (.iload_n 1, 1) := by decide +kernel
theorem dX8_sailNow_73 : decode cX8_sailNow 73 = .ok (.iadd, 1) := by decide +kernel
theorem dX8_sailNow_74 : decode cX8_sailNow 74 = .ok (.iaload, 1) := by decide +kernel
theorem dX8_sailNow_75 : decode cX8_sailNow 75 = .ok (.iload_n 2, 1) := by decide +kernel
theorem dX8_sailNow_76 : decode cX8_sailNow 76 = .ok (.invokestatic 444, 3) := by decide +kernel
theorem dX8_sailNow_79 : decode cX8_sailNow 79 = .ok (.iastore, 1) := by decide +kernel
theorem dX8_sailNow_80 : decode cX8_sailNow 80 = .ok (.aload_n 0, 1) := by decide +kernel
theorem dX8_sailNow_81 : decode cX8_sailNow 81 = .ok (.getfield 13, 3) := by decide +kernel
theorem dX8_sailNow_84 : decode cX8_sailNow 84 = .ok (.bipush 15, 2) := by decide +kernel
theorem dX8_sailNow_86 : decode cX8_sailNow 86 = .ok (.iload_n 1, 1) := by decide +kernel
theorem dX8_sailNow_87 : decode cX8_sailNow 87 = .ok (.iadd, 1) := by decide +kernel
theorem dX8_sailNow_88 : decode cX8_sailNow 88 = .ok (.iaload, 1) := by decide +kernel
theorem dX8_sailNow_89 : decode cX8_sailNow 89 = .ok (.ireturn, 1) := by decide +kernel
theorem dX8_sail_0 : decode cX8_sail 0 = .ok (.aload_n 0, 1) := by decide +kernel
theorem dX8_sail_1 : decode cX8_sail 1 = .ok (.iconst 0, 1) := by decide +kernel
theorem dX8_sail_2 : decode cX8_sail 2 = .ok (.putfield 161, 3) := by decide +kernel
theorem dX8_sail_5 : decode cX8_sail 5 = .ok (.aload_n 0, 1) := by decide +kernel
theorem dX8_sail_6 : decode cX8_sail 6 = .ok (.aload_n 0, 1) := by decide +kernel
theorem dX8_sail_7 : decode cX8_sail 7 = .ok (.iload_n 1, 1) := by decide +kernel
theorem dX8_sail_8 : decode cX8_sail 8 = .ok (.iload_n 2, 1) := by decide +kernel
theorem dX8_sail_9 : decode cX8_sail 9 = .ok (.invokevirtual 447, 3) := by decide +kernel
theorem dX8_sail_12 : decode cX8_sail 12 = .ok (.invokevirtual 170, 3) := by decide +kernel
theorem dX8_sail_15 : decode cX8_sail 15 = .ok (.ireturn, 1) := by decide +kernel
theorem dX8_fishIt_0 : decode cX8_fishIt 0 = .ok (.aload_n 0, 1) := by decide +kernel
theorem dX8_fishIt_1 : decode cX8_fishIt 1 = .ok (.getfield 13, 3) := by decide +kernel
theorem dX8_fishIt_4 : decode cX8_fishIt 4 = .ok (.bipush 15, 2) := by decide +kernel
theorem dX8_fishIt_6 : decode cX8_fishIt 6 = .ok (.iload_n 1, 1) := by decide +kernel
theorem dX8_fishIt_7 : decode cX8_fishIt 7 = .ok (.iadd, 1) := by decide +kernel
theorem dX8_fishIt_8 : decode cX8_fishIt 8 = .ok (.iaload, 1) := by decide +kernel
theorem dX8_fishIt_9 : decode cX8_fishIt 9 = .ok (.istore_n 2, 1) := by decide +kernel
theorem dX8_fishIt_10 : decode cX8_fishIt 10 = .ok (.aload_n 0, 1) := by decide +kernel
theorem dX8_fishIt_11 : decode cX8_fishIt 11 = .ok (.iload_n 1, 1) := by decide +kernel
theorem dX8_fishIt_12 : decode cX8_fishIt 12 = .ok (.iload_n 2, 1) := by decide +kernel
theorem dX8_fishIt_13 : decode cX8_fishIt 13 = .ok (.aload_n 0, 1) := by decide +kernel
theorem dX8_fishIt_14 : decode cX8_fishIt 14 = .ok (.getfield 13, 3) := by decide +kernel
theorem dX8_fishIt_17 : decode cX8_fishIt 17 = .ok (.bipush 39, 2) := by decide +kernel
theorem dX8_fishIt_19 : decode cX8_fishIt 19 = .ok (.iload_n 2, 1) := by decide +kernel
theorem dX8_fishIt_20 : decode cX8_fishIt 20 = .ok (.iadd, 1) := by decide +kernel
theorem dX8_fishIt_21 : decode cX8_fishIt 21 = .ok (.iaload, 1) := by decide +kernel
theorem dX8_fishIt_22 : decode cX8_fishIt 22 = .ok (.aload_n 0, 1) := by decide +kernel
theorem dX8_fishIt_23 : decode cX8_fishIt 23 = .ok (.getfield 13, 3) := by decide +kernel
theorem dX8_fishIt_26 : decode cX8_fishIt 26 = .ok (.bipush 23, 2) := by decide +kernel
theorem dX8_fishIt_28 : decode cX8_fishIt 28 = .ok (.iload_n 1, 1) := by decide +kernel
theorem dX8_fishIt_29 : decode cX8_fishIt 29 = .ok (.iadd, 1) := by decide +kernel
theorem dX8_fishIt_30 : decode cX8_fishIt 30 = .ok (.iaload, 1) := by decide +kernel
theorem dX8_fishIt_31 : decode cX8_fishIt 31 = .ok (.invokevirtual 229, 3) := by decide +kernel
theorem dX8_fishIt_34 : decode cX8_fishIt 34 = .ok (.istore_n 3, 1) := by decide +kernel
theorem dX8_fishIt_35 : decode cX8_fishIt 35 = .ok (.aload_n 0, 1) := by decide +kernel
theorem dX8_fishIt_36 : decode cX8_fishIt 36 = .ok (.getfield 13, 3) := by decide +kernel
theorem dX8_fishIt_39 : decode cX8_fishIt 39 = .ok (.bipush 23, 2) := by decide +kernel
theorem dX8_fishIt_41 : decode cX8_fishIt 41 = .ok (.iload_n 1, 1) := by decide +kernel
theorem dX8_fishIt_42 : decode cX8_fishIt 42 = .ok (.iadd, 1) := by decide +kernel
theorem dX8_fishIt_43 : decode cX8_fishIt 43 = .ok (.aload_n 0, 1) := by decide +kernel
theorem dX8_fishIt_44 : decode cX8_fishIt 44 = .ok (.getfield 13, 3) := by decide +kernel
theorem dX8_fishIt_47 : decode cX8_fishIt 47 = .ok (.bipush 23, 2) := by decide +kernel
theorem dX8_fishIt_49 : decode cX8_fishIt 49 = .ok (.iload_n 1, 1) := by decide +kernel
theorem dX8_fishIt_50 : decode cX8_fishIt 50 = .ok (.iadd, 1) := by decide +kernel
theorem dX8_fishIt_51 : decode cX8_fishIt 51 = .ok (.iaload, 1) := by decide +kernel
theorem dX8_fishIt_52 : decode cX8_fishIt 52 = .ok (.iload_n 3, 1) := by decide +kernel
theorem dX8_fishIt_53 : decode cX8_fishIt 53 = .ok (.iadd, 1) := by decide +kernel
theorem dX8_fishIt_54 : decode cX8_fishIt 54 = .ok (.i2l, 1) := by decide +kernel
theorem dX8_fishIt_55 : decode cX8_fishIt 55 = .ok (.iconst 0, 1) := by decide +kernel
theorem dX8_fishIt_56 : decode cX8_fishIt 56 = .ok (.sipush 999, 3) := by decide +kernel
theorem dX8_fishIt_59 : decode cX8_fishIt 59 = .ok (.invokestatic 428, 3) := by decide +kernel
theorem dX8_fishIt_62 : decode cX8_fishIt 62 = .ok (.iastore, 1) := by decide +kernel
theorem dX8_fishIt_63 : decode cX8_fishIt 63 = .ok (.aload_n 0, 1) := by decide +kernel
theorem dX8_fishIt_64 : decode cX8_fishIt 64 = .ok (.getfield 13, 3) := by decide +kernel
theorem dX8_fishIt_67 : decode cX8_fishIt 67 = .ok (.bipush 39, 2) := by decide +kernel
theorem dX8_fishIt_69 : decode cX8_fishIt 69 = .ok (.iload_n 2, 1) := by decide +kernel
theorem dX8_fishIt_70 : decode cX8_fishIt 70 = .ok (.iadd, 1) := by decide +kernel
theorem dX8_fishIt_71 : decode cX8_fishIt 71 = .ok (.dup2, 1) := by decide +kernel
theorem dX8_fishIt_72 : decode cX8_fishIt 72 = .ok (.iaload, 1) := by decide +kernel
theorem dX8_fishIt_73 : decode cX8_fishIt 73 = .ok (.iload_n 3, 1) := by decide +kernel
theorem dX8_fishIt_74 : decode cX8_fishIt 74 = .ok (.isub, 1) := by decide +kernel
theorem dX8_fishIt_75 : decode cX8_fishIt 75 = .ok (.iastore, 1) := by decide +kernel
theorem dX8_fishIt_76 : decode cX8_fishIt 76 = .ok (.iload_n 3, 1) := by decide +kernel
theorem dX8_fishIt_77 : decode cX8_fishIt 77 = .ok (.ireturn, 1) := by decide +kernel
theorem dX8_fishNow_0 : decode cX8_fishNow 0 = .ok (.aload_n 0, 1) := by decide +kernel
theorem dX8_fishNow_1 : decode cX8_fishNow 1 = .ok (.iload_n 1, 1) := by decide +kernel
theorem dX8_fishNow_2 : decode cX8_fishNow 2 = .ok (.invokevirtual 203, 3) := by decide +kernel
theorem dX8_fishNow_5 : decode cX8_fishNow 5 = .ok (.ifCond .ne 6, 3) := by decide +kernel
theorem dX8_fishNow_8 : decode cX8_fishNow 8 = .ok (.bipush (-2), 2) := by decide +kernel
theorem dX8_fishNow_10 : decode cX8_fishNow 10 = .ok (.ireturn, 1) := by decide +kernel
theorem dX8_fishNow_11 : decode cX8_fishNow 11 = .ok (.aload_n 0, 1) := by decide +kernel
theorem dX8_fishNow_12 : decode cX8_fishNow 12 = .ok (.iload_n 1, 1) := by decide +kernel
theorem dX8_fishNow_13 : decode cX8_fishNow 13 = .ok (.invokevirtual 441, 3) := by decide +kernel
theorem dX8_fishNow_16 : decode cX8_fishNow 16 = .ok (.ifCond .ne 6, 3) := by decide +kernel
theorem dX8_fishNow_19 : decode cX8_fishNow 19 = .ok (.bipush (-3), 2) := by decide +kernel
theorem dX8_fishNow_21 : decode cX8_fishNow 21 = .ok (.ireturn, 1) := by decide +kernel
theorem dX8_fishNow_22 : decode cX8_fishNow 22 = .ok (.aload_n 0, 1) := by decide +kernel
theorem dX8_fishNow_23 : decode cX8_fishNow 23 = .ok (.iconst 2, 1) := by decide +kernel
theorem dX8_fishNow_24 : decode cX8_fishNow 24 = .ok (.invokevirtual 435, 3) := by decide +kernel
theorem dX8_fishNow_27 : decode cX8_fishNow 27 = .ok (.aload_n 0, 1) := by decide +kernel
theorem dX8_fishNow_28 : decode cX8_fishNow 28 = .ok (.iload_n 1, 1) := by decide +kernel
theorem dX8_fishNow_29 : decode cX8_fishNow 29 = .ok (.invokevirtual 450, 3) := by decide +kernel
theorem dX8_fishNow_32 : decode cX8_fishNow 32 = .ok (.ireturn, 1) := by decide +kernel
theorem dX8_fish_0 : decode cX8_fish 0 = .ok (.aload_n 0, 1) := by decide +kernel
theorem dX8_fish_1 : decode cX8_fish 1 = .ok (.iconst 0, 1) := by decide +kernel
theorem dX8_fish_2 : decode cX8_fish 2 = .ok (.putfield 161, 3) := by decide +kernel
theorem dX8_fish_5 : decode cX8_fish 5 = .ok (.aload_n 0, 1) := by decide +kernel
theorem dX8_fish_6 : decode cX8_fish 6 = .ok (.aload_n 0, 1) := by decide +kernel
theorem dX8_fish_7 : decode cX8_fish 7 = .ok (.iload_n 1, 1) := by decide +kernel
theorem dX8_fish_8 : decode cX8_fish 8 = .ok (.invokevirtual 453, 3) := by decide +kernel
theorem dX8_fish_11 : decode cX8_fish 11 = .ok (.invokevirtual 170, 3) := by decide +kernel
theorem dX8_fish_14 : decode cX8_fish 14 = .ok (.ireturn, 1) := by decide +kernel
theorem dX8_hangNow_0 : decode cX8_hangNow 0 = .ok (.aload_n 0, 1) := by decide +kernel
theorem dX8_hangNow_1 : decode cX8_hangNow 1 = .ok (.iload_n 1, 1) := by decide +kernel
theorem dX8_hangNow_2 : decode cX8_hangNow 2 = .ok (.invokevirtual 203, 3) := by decide +kernel
theorem dX8_hangNow_5 : decode cX8_hangNow 5 = .ok (.ifCond .eq 11, 3) := by decide +kernel
theorem dX8_hangNow_8 : decode cX8_hangNow 8 = .ok (.aload_n 0, 1) := by decide +kernel
theorem dX8_hangNow_9 : decode cX8_hangNow 9 = .ok (.iload_n 2, 1) := by decide +kernel
theorem dX8_hangNow_10 : decode cX8_hangNow 10 = .ok (.invokevirtual 196, 3) := by decide +kernel
theorem dX8_hangNow_13 : decode cX8_hangNow 13 = .ok (.ifCond .ne 6, 3) := by decide +kernel
theorem dX8_hangNow_16 : decode cX8_hangNow 16 = .ok (.bipush (-2), 2) := by decide +kernel
theorem dX8_hangNow_18 : decode cX8_hangNow 18 = .ok (.ireturn, 1) := by decide +kernel
theorem dX8_hangNow_19 : decode cX8_hangNow 19 = .ok (.aload_n 0, 1) := by decide +kernel
theorem dX8_hangNow_20 : decode cX8_hangNow 20 = .ok (.getfield 13, 3) := by decide +kernel
theorem dX8_hangNow_23 : decode cX8_hangNow 23 = .ok (.bipush 15, 2) := by decide +kernel
theorem dX8_hangNow_25 : decode cX8_hangNow 25 = .ok (.iload_n 1, 1) := by decide +kernel
theorem dX8_hangNow_26 : decode cX8_hangNow 26 = .ok (.iadd, 1) := by decide +kernel
theorem dX8_hangNow_27 : decode cX8_hangNow 27 = .ok (.iaload, 1) := by decide +kernel
theorem dX8_hangNow_28 : decode cX8_hangNow 28 = .ok (.ifCond .ne 21, 3) := by decide +kernel
theorem dX8_hangNow_31 : decode cX8_hangNow 31 = .ok (.aload_n 0, 1) := by decide +kernel
theorem dX8_hangNow_32 : decode cX8_hangNow 32 = .ok (.iload_n 2, 1) := by decide +kernel
theorem dX8_hangNow_33 : decode cX8_hangNow 33 = .ok (.invokevirtual 200, 3) := by decide +kernel
theorem dX8_hangNow_36 : decode cX8_hangNow 36 = .ok (.iconst (-1), 1) := by decide +kernel
theorem dX8_hangNow_37 : decode cX8_hangNow 37 = .ok (.if_icmp .ne 12, 3) := by decide +kernel
theorem dX8_hangNow_40 : decode cX8_hangNow 40 = .ok (.aload_n 0, 1) := by decide +kernel
theorem dX8_hangNow_41 : decode cX8_hangNow 41 = .ok (.iload_n 1, 1) := by decide +kernel
theorem dX8_hangNow_42 : decode cX8_hangNow 42 = .ok (.iload_n 2, 1) := by decide +kernel
theorem dX8_hangNow_43 : decode cX8_hangNow 43 = .ok (.invokevirtual 209, 3) := by decide +kernel
theorem dX8_hangNow_46 : decode cX8_hangNow 46 = .ok (.ifCond .ne 6, 3) := by decide +kernel
theorem dX8_hangNow_49 : decode cX8_hangNow 49 = .ok (.bipush (-3), 2) := by decide +kernel
theorem dX8_hangNow_51 : decode cX8_hangNow 51 = .ok (.ireturn, 1) := by decide +kernel
theorem dX8_hangNow_52 : decode cX8_hangNow 52 = .ok (.aload_n 0, 1) := by decide +kernel
theorem dX8_hangNow_53 : decode cX8_hangNow 53 = .ok (.iconst 3, 1) := by decide +kernel
theorem dX8_hangNow_54 : decode cX8_hangNow 54 = .ok (.invokevirtual 435, 3) := by decide +kernel
theorem dX8_hangNow_57 : decode cX8_hangNow 57 = .ok (.aload_n 0, 1) := by decide +kernel
theorem dX8_hangNow_58 : decode cX8_hangNow 58 = .ok (.getfield 13, 3) := by decide +kernel
theorem dX8_hangNow_61 : decode cX8_hangNow 61 = .ok (.bipush 23, 2) := by decide +kernel
theorem dX8_hangNow_63 : decode cX8_hangNow 63 = .ok (.iload_n 1, 1) := by decide +kernel
theorem dX8_hangNow_64 : decode cX8_hangNow 64 = .ok (.iadd, 1) := by decide +kernel
theorem dX8_hangNow_65 : decode cX8_hangNow 65 = .ok (.iaload, 1) := by decide +kernel
theorem dX8_hangNow_66 : decode cX8_hangNow 66 = .ok (.istore_n 3, 1) := by decide +kernel
theorem dX8_hangNow_67 : decode cX8_hangNow 67 = .ok (.aload_n 0, 1) := by decide +kernel
theorem dX8_hangNow_68 : decode cX8_hangNow 68 = .ok (.getfield 13, 3) := by decide +kernel
theorem dX8_hangNow_71 : decode cX8_hangNow 71 = .ok (.bipush 15, 2) := by decide +kernel
theorem dX8_hangNow_73 : decode cX8_hangNow 73 = .ok (.iload_n 1, 1) := by decide +kernel
theorem dX8_hangNow_74 : decode cX8_hangNow 74 = .ok (.iadd, 1) := by decide +kernel
theorem dX8_hangNow_75 : decode cX8_hangNow 75 = .ok (.iconst (-1), 1) := by decide +kernel
theorem dX8_hangNow_76 : decode cX8_hangNow 76 = .ok (.iastore, 1) := by decide +kernel
theorem dX8_hangNow_77 : decode cX8_hangNow 77 = .ok (.aload_n 0, 1) := by decide +kernel
theorem dX8_hangNow_78 : decode cX8_hangNow 78 = .ok (.getfield 13, 3) := by decide +kernel
theorem dX8_hangNow_81 : decode cX8_hangNow 81 = .ok (.bipush 7, 2) := by decide +kernel
theorem dX8_hangNow_83 : decode cX8_hangNow 83 = .ok (.iload_n 1, 1) := by decide +kernel
theorem dX8_hangNow_84 : decode cX8_hangNow 84 = .ok (.iadd, 1) := by decide +kernel
theorem dX8_hangNow_85 : decode cX8_hangNow 85 = .ok (.iload_n 2, 1) := by decide +kernel
theorem dX8_hangNow_86 : decode cX8_hangNow 86 = .ok (.iastore, 1) := by decide +kernel
theorem dX8_hangNow_87 : decode cX8_hangNow 87 = .ok (.aload_n 0, 1) := by decide +kernel
theorem dX8_hangNow_88 : decode cX8_hangNow 88 = .ok (.getfield 13, 3) := by decide +kernel
theorem dX8_hangNow_91 : decode cX8_hangNow 91 = .ok (.bipush 23, 2) := by decide +kernel
theorem dX8_hangNow_93 : decode cX8_hangNow 93 = .ok (.iload_n 1, 1) := by decide +kernel
theorem dX8_hangNow_94 : decode cX8_hangNow 94 = .ok (.iadd, 1) := by decide +kernel
theorem dX8_hangNow_95 : decode cX8_hangNow 95 = .ok (.iconst 0, 1) := by decide +kernel
theorem dX8_hangNow_96 : decode cX8_hangNow 96 = .ok (.iastore, 1) := by decide +kernel
theorem dX8_hangNow_97 : decode cX8_hangNow 97 = .ok (.iload_n 3, 1) := by decide +kernel
theorem dX8_hangNow_98 : decode cX8_hangNow 98 = .ok (.ireturn, 1) := by decide +kernel
theorem dX8_hang_0 : decode cX8_hang 0 = .ok (.aload_n 0, 1) := by decide +kernel
theorem dX8_hang_1 : decode cX8_hang 1 = .ok (.iconst 0, 1) := by decide +kernel
theorem dX8_hang_2 : decode cX8_hang 2 = .ok (.putfield 161, 3) := by decide +kernel
theorem dX8_hang_5 : decode cX8_hang 5 = .ok (.aload_n 0, 1) := by decide +kernel
theorem dX8_hang_6 : decode cX8_hang 6 = .ok (.aload_n 0, 1) := by decide +kernel
theorem dX8_hang_7 : decode cX8_hang 7 = .ok (.iload_n 1, 1) := by decide +kernel
theorem dX8_hang_8 : decode cX8_hang 8 = .ok (.iload_n 2, 1) := by decide +kernel
theorem dX8_hang_9 : decode cX8_hang 9 = .ok (.invokevirtual 456, 3) := by decide +kernel
theorem dX8_hang_12 : decode cX8_hang 12 = .ok (.invokevirtual 170, 3) := by decide +kernel
theorem dX8_hang_15 : decode cX8_hang 15 = .ok (.ireturn, 1) := by decide +kernel
theorem dX8_lose_0 : decode cX8_lose 0 = .ok (.aload_n 0, 1) := by decide +kernel
theorem dX8_lose_1 : decode cX8_lose 1 = .ok (.getfield 13, 3) := by decide +kernel
theorem dX8_lose_4 : decode cX8_lose 4 = .ok (.bipush 15, 2) := by decide +kernel
theorem dX8_lose_6 : decode cX8_lose 6 = .ok (.iload_n 1, 1) := by decide +kernel
theorem dX8_lose_7 : decode cX8_lose 7 = .ok (.iadd, 1) := by decide +kernel
theorem dX8_lose_8 : decode cX8_lose 8 = .ok (.iconst (-1), 1) := by decide +kernel
theorem dX8_lose_9 : decode cX8_lose 9 = .ok (.iastore, 1) := by decide +kernel
theorem dX8_lose_10 : decode cX8_lose 10 = .ok (.aload_n 0, 1) := by decide +kernel
theorem dX8_lose_11 : decode cX8_lose 11 = .ok (.getfield 13, 3) := by decide +kernel
theorem dX8_lose_14 : decode cX8_lose 14 = .ok (.bipush 31, 2) := by decide +kernel
theorem dX8_lose_16 : decode cX8_lose 16 = .ok (.iload_n 1, 1) := by decide +kernel
theorem dX8_lose_17 : decode cX8_lose 17 = .ok (.iadd, 1) := by decide +kernel
theorem dX8_lose_18 : decode cX8_lose 18 = .ok (.iconst 1, 1) := by decide +kernel
theorem dX8_lose_19 : decode cX8_lose 19 = .ok (.iastore, 1) := by decide +kernel
theorem dX8_lose_20 : decode cX8_lose 20 = .ok (.return_, 1) := by decide +kernel
theorem dX8_tideIt_0 : decode cX8_tideIt 0 = .ok (.iconst 0, 1) := by decide +kernel
theorem dX8_tideIt_1 : decode cX8_tideIt 1 = .ok (.istore_n 1, 1) := by decide +kernel
theorem dX8_tideIt_2 : decode cX8_tideIt 2 = .ok (.iconst 0, 1) := by decide +kernel
theorem dX8_tideIt_3 : decode cX8_tideIt 3 = .ok (.istore_n 2, 1) := by decide +kernel
theorem dX8_tideIt_4 : decode cX8_tideIt 4 = .ok (.iload_n 2, 1) := by decide +kernel
theorem dX8_tideIt_5 : decode cX8_tideIt 5 = .ok (.aload_n 0, 1) := by decide +kernel
theorem dX8_tideIt_6 : decode cX8_tideIt 6 = .ok (.getfield 13, 3) := by decide +kernel
theorem dX8_tideIt_9 : decode cX8_tideIt 9 = .ok (.iconst 1, 1) := by decide +kernel
theorem dX8_tideIt_10 : decode cX8_tideIt 10 = .ok (.iaload, 1) := by decide +kernel
theorem dX8_tideIt_11 : decode cX8_tideIt 11 = .ok (.if_icmp .ge 70, 3) := by decide +kernel
theorem dX8_tideIt_14 : decode cX8_tideIt 14 = .ok (.aload_n 0, 1) := by decide +kernel
theorem dX8_tideIt_15 : decode cX8_tideIt 15 = .ok (.iload_n 2, 1) := by decide +kernel
theorem dX8_tideIt_16 : decode cX8_tideIt 16 = .ok (.invokevirtual 441, 3) := by decide +kernel
theorem dX8_tideIt_19 : decode cX8_tideIt 19 = .ok (.ifCond .eq 56, 3) := by decide +kernel
theorem dX8_tideIt_22 : decode cX8_tideIt 22 = .ok (.aload_n 0, 1) := by decide +kernel
theorem dX8_tideIt_23 : decode cX8_tideIt 23 = .ok (.getfield 13, 3) := by decide +kernel
theorem dX8_tideIt_26 : decode cX8_tideIt 26 = .ok (.bipush 15, 2) := by decide +kernel
theorem dX8_tideIt_28 : decode cX8_tideIt 28 = .ok (.iload_n 2, 1) := by decide +kernel
theorem dX8_tideIt_29 : decode cX8_tideIt 29 = .ok (.iadd, 1) := by decide +kernel
theorem dX8_tideIt_30 : decode cX8_tideIt 30 = .ok (.iaload, 1) := by decide +kernel
theorem dX8_tideIt_31 : decode cX8_tideIt 31 = .ok (.aload_n 0, 1) := by decide +kernel
theorem dX8_tideIt_32 : decode cX8_tideIt 32 = .ok (.getfield 13, 3) := by decide +kernel
theorem dX8_tideIt_35 : decode cX8_tideIt 35 = .ok (.bipush 104, 2) := by decide +kernel
theorem dX8_tideIt_37 : decode cX8_tideIt 37 = .ok (.aload_n 0, 1) := by decide +kernel
theorem dX8_tideIt_38 : decode cX8_tideIt 38 = .ok (.getfield 13, 3) := by decide +kernel
theorem dX8_tideIt_41 : decode cX8_tideIt 41 = .ok (.bipush 15, 2) := by decide +kernel
theorem dX8_tideIt_43 : decode cX8_tideIt 43 = .ok (.iload_n 2, 1) := by decide +kernel
theorem dX8_tideIt_44 : decode cX8_tideIt 44 = .ok (.iadd, 1) := by decide +kernel
theorem dX8_tideIt_45 : decode cX8_tideIt 45 = .ok (.iaload, 1) := by decide +kernel
theorem dX8_tideIt_46 : decode cX8_tideIt 46 = .ok (.iadd, 1) := by decide +kernel
theorem dX8_tideIt_47 : decode cX8_tideIt 47 = .ok (.iaload, 1) := by decide +kernel
theorem dX8_tideIt_48 : decode cX8_tideIt 48 = .ok (.invokestatic 444, 3) := by decide +kernel
theorem dX8_tideIt_51 : decode cX8_tideIt 51 = .ok (.istore_n 3, 1) := by decide +kernel
theorem dX8_tideIt_52 : decode cX8_tideIt 52 = .ok (.aload_n 0, 1) := by decide +kernel
theorem dX8_tideIt_53 : decode cX8_tideIt 53 = .ok (.getfield 13, 3) := by decide +kernel
theorem dX8_tideIt_56 : decode cX8_tideIt 56 = .ok (.bipush 15, 2) := by decide +kernel
theorem dX8_tideIt_58 : decode cX8_tideIt 58 = .ok (.iload_n 2, 1) := by decide +kernel
theorem dX8_tideIt_59 : decode cX8_tideIt 59 = .ok (.iadd, 1) := by decide +kernel
theorem dX8_tideIt_60 : decode cX8_tideIt 60 = .ok (.iload_n 3, 1) := by decide +kernel
theorem dX8_tideIt_61 : decode cX8_tideIt 61 = .ok (.iastore, 1) := by decide +kernel
theorem dX8_tideIt_62 : decode cX8_tideIt 62 = .ok (.iload_n 3, 1) := by decide +kernel
theorem dX8_tideIt_63 : decode cX8_tideIt 63 = .ok (.iconst (-1), 1) := by decide +kernel
theorem dX8_tideIt_64 : decode cX8_tideIt 64 = .ok (.if_icmp .ne 11, 3) := by decide +kernel
theorem dX8_tideIt_67 : decode cX8_tideIt 67 = .ok (.aload_n 0, 1) := by decide +kernel
theorem dX8_tideIt_68 : decode cX8_tideIt 68 = .ok (.iload_n 2, 1) := by decide +kernel
theorem dX8_tideIt_69 : decode cX8_tideIt 69 = .ok (.invokevirtual 459, 3) := by decide +kernel
theorem dX8_tideIt_72 : decode cX8_tideIt 72 = .ok (.iinc 1 1, 3) := by decide +kernel
theorem dX8_tideIt_75 : decode cX8_tideIt 75 = .ok (.iinc 2 1, 3) := by decide +kernel
theorem dX8_tideIt_78 : decode cX8_tideIt 78 = .ok (.goto (-74), 3) := by decide +kernel
theorem dX8_tideIt_81 : decode cX8_tideIt 81 = .ok (.iconst 0, 1) := by decide +kernel
theorem dX8_tideIt_82 : decode cX8_tideIt 82 = .ok (.istore_n 2, 1) := by decide +kernel
theorem dX8_tideIt_83 : decode cX8_tideIt 83 = .ok (.iload_n 2, 1) := by decide +kernel
theorem dX8_tideIt_84 : decode cX8_tideIt 84 = .ok (.bipush 25, 2) := by decide +kernel
theorem dX8_tideIt_86 : decode cX8_tideIt 86 = .ok (.if_icmp .ge 36, 3) := by decide +kernel
theorem dX8_tideIt_89 : decode cX8_tideIt 89 = .ok (.aload_n 0, 1) := by decide +kernel
theorem dX8_tideIt_90 : decode cX8_tideIt 90 = .ok (.getfield 13, 3) := by decide +kernel
theorem dX8_tideIt_93 : decode cX8_tideIt 93 = .ok (.bipush 39, 2) := by decide +kernel
theorem dX8_tideIt_95 : decode cX8_tideIt 95 = .ok (.iload_n 2, 1) := by decide +kernel
theorem dX8_tideIt_96 : decode cX8_tideIt 96 = .ok (.iadd, 1) := by decide +kernel
theorem dX8_tideIt_97 : decode cX8_tideIt 97 = .ok (.aload_n 0, 1) := by decide +kernel
theorem dX8_tideIt_98 : decode cX8_tideIt 98 = .ok (.getfield 13, 3) := by decide +kernel
theorem dX8_tideIt_101 : decode cX8_tideIt 101 = .ok (.bipush 39, 2) := by decide +kernel
theorem dX8_tideIt_103 : decode cX8_tideIt 103 = .ok (.iload_n 2, 1) := by decide +kernel
theorem dX8_tideIt_104 : decode cX8_tideIt 104 = .ok (.iadd, 1) := by decide +kernel
theorem dX8_tideIt_105 : decode cX8_tideIt 105 = .ok (.iaload, 1) := by decide +kernel
theorem dX8_tideIt_106 : decode cX8_tideIt 106 = .ok (.i2l, 1) := by decide +kernel
theorem dX8_tideIt_107 : decode cX8_tideIt 107 = .ok (.lconst 1, 1) := by decide +kernel
theorem dX8_tideIt_108 : decode cX8_tideIt 108 = .ok (.ladd, 1) := by decide +kernel
theorem dX8_tideIt_109 : decode cX8_tideIt 109 = .ok (.iconst 0, 1) := by decide +kernel
theorem dX8_tideIt_110 : decode cX8_tideIt 110 = .ok (.bipush 99, 2) := by decide +kernel
theorem dX8_tideIt_112 : decode cX8_tideIt 112 = .ok (.invokestatic 428, 3) := by decide +kernel
theorem dX8_tideIt_115 : decode cX8_tideIt 115 = .ok (.iastore, 1) := by decide +kernel
theorem dX8_tideIt_116 : decode cX8_tideIt 116 = .ok (.iinc 2 1, 3) := by decide +kernel
theorem dX8_tideIt_119 : decode cX8_tideIt 119 = .ok (.goto (-36), 3) := by decide +kernel
theorem dX8_tideIt_122 : decode cX8_tideIt 122 = .ok (.aload_n 0, 1) := by decide +kernel
theorem dX8_tideIt_123 : decode cX8_tideIt 123 = .ok (.getfield 13, 3) := by decide +kernel
theorem dX8_tideIt_126 : decode cX8_tideIt 126 = .ok (.iconst 5, 1) := by decide +kernel
theorem dX8_tideIt_127 : decode cX8_tideIt 127 = .ok (.dup2, 1) := by decide +kernel
theorem dX8_tideIt_128 : decode cX8_tideIt 128 = .ok (.iaload, 1) := by decide +kernel
theorem dX8_tideIt_129 : decode cX8_tideIt 129 = .ok (.iconst 1, 1) := by decide +kernel
theorem dX8_tideIt_130 : decode cX8_tideIt 130 = .ok (.iadd, 1) := by decide +kernel
theorem dX8_tideIt_131 : decode cX8_tideIt 131 = .ok (.iastore, 1) := by decide +kernel
theorem dX8_tideIt_132 : decode cX8_tideIt 132 = .ok (.iload_n 1, 1) := by decide +kernel
theorem dX8_tideIt_133 : decode cX8_tideIt 133 = .ok (.ireturn, 1) := by decide +kernel
theorem dX8_tideNow_0 : decode cX8_tideNow 0 = .ok (.aload_n 0, 1) := by decide +kernel
theorem dX8_tideNow_1 : decode cX8_tideNow 1 = .ok (.getfield 13, 3) := by decide +kernel
theorem dX8_tideNow_4 : decode cX8_tideNow 4 = .ok (.iconst 5, 1) := by decide +kernel
theorem dX8_tideNow_5 : decode cX8_tideNow 5 = .ok (.iaload, 1) := by decide +kernel
theorem dX8_tideNow_6 : decode cX8_tideNow 6 = .ok (.sipush 999, 3) := by decide +kernel
theorem dX8_tideNow_9 : decode cX8_tideNow 9 = .ok (.if_icmp .ne 6, 3) := by decide +kernel
theorem dX8_tideNow_12 : decode cX8_tideNow 12 = .ok (.bipush (-3), 2) := by decide +kernel
theorem dX8_tideNow_14 : decode cX8_tideNow 14 = .ok (.ireturn, 1) := by decide +kernel
theorem dX8_tideNow_15 : decode cX8_tideNow 15 = .ok (.aload_n 0, 1) := by decide +kernel
theorem dX8_tideNow_16 : decode cX8_tideNow 16 = .ok (.iconst 4, 1) := by decide +kernel
theorem dX8_tideNow_17 : decode cX8_tideNow 17 = .ok (.invokevirtual 435, 3) := by decide +kernel
theorem dX8_tideNow_20 : decode cX8_tideNow 20 = .ok (.aload_n 0, 1) := by decide +kernel
theorem dX8_tideNow_21 : decode cX8_tideNow 21 = .ok (.invokevirtual 462, 3) := by decide +kernel
theorem dX8_tideNow_24 : decode cX8_tideNow 24 = .ok (.ireturn, 1) := by decide +kernel
theorem dX8_tide_0 : decode cX8_tide 0 = .ok (.aload_n 0, 1) := by decide +kernel
theorem dX8_tide_1 : decode cX8_tide 1 = .ok (.iconst 0, 1) := by decide +kernel
theorem dX8_tide_2 : decode cX8_tide 2 = .ok (.putfield 161, 3) := by decide +kernel
theorem dX8_tide_5 : decode cX8_tide 5 = .ok (.aload_n 0, 1) := by decide +kernel
theorem dX8_tide_6 : decode cX8_tide 6 = .ok (.aload_n 0, 1) := by decide +kernel
theorem dX8_tide_7 : decode cX8_tide 7 = .ok (.invokevirtual 465, 3) := by decide +kernel
theorem dX8_tide_10 : decode cX8_tide 10 = .ok (.invokevirtual 170, 3) := by decide +kernel
theorem dX8_tide_13 : decode cX8_tide 13 = .ok (.ireturn, 1) := by decide +kernel
theorem dX8_fleet_0 : decode cX8_fleet 0 = .ok (.aload_n 0, 1) := by decide +kernel
theorem dX8_fleet_1 : decode cX8_fleet 1 = .ok (.iconst 0, 1) := by decide +kernel
theorem dX8_fleet_2 : decode cX8_fleet 2 = .ok (.putfield 161, 3) := by decide +kernel
theorem dX8_fleet_5 : decode cX8_fleet 5 = .ok (.iload_n 1, 1) := by decide +kernel
theorem dX8_fleet_6 : decode cX8_fleet 6 = .ok (.i2l, 1) := by decide +kernel
theorem dX8_fleet_7 : decode cX8_fleet 7 = .ok (.lconst 0, 1) := by decide +kernel
theorem dX8_fleet_8 : decode cX8_fleet 8 = .ok (.ldc2_w 468, 3) := by decide +kernel
theorem dX8_fleet_11 : decode cX8_fleet 11 = .ok (.invokestatic 181, 3) := by decide +kernel
theorem dX8_fleet_14 : decode cX8_fleet 14 = .ok (.ifCond .eq 13, 3) := by decide +kernel
theorem dX8_fleet_17 : decode cX8_fleet 17 = .ok (.iload_n 2, 1) := by decide +kernel
theorem dX8_fleet_18 : decode cX8_fleet 18 = .ok (.i2l, 1) := by decide +kernel
theorem dX8_fleet_19 : decode cX8_fleet 19 = .ok (.lconst 0, 1) := by decide +kernel
theorem dX8_fleet_20 : decode cX8_fleet 20 = .ok (.lconst 1, 1) := by decide +kernel
theorem dX8_fleet_21 : decode cX8_fleet 21 = .ok (.invokestatic 181, 3) := by decide +kernel
theorem dX8_fleet_24 : decode cX8_fleet 24 = .ok (.ifCond .ne 5, 3) := by decide +kernel
theorem dX8_fleet_27 : decode cX8_fleet 27 = .ok (.iconst (-1), 1) := by decide +kernel
theorem dX8_fleet_28 : decode cX8_fleet 28 = .ok (.ireturn, 1) := by decide +kernel
theorem dX8_fleet_29 : decode cX8_fleet 29 = .ok (.iconst 0, 1) := by decide +kernel
theorem dX8_fleet_30 : decode cX8_fleet 30 = .ok (.istore_n 3, 1) := by decide +kernel
theorem dX8_fleet_31 : decode cX8_fleet 31 = .ok (.iconst 0, 1) := by decide +kernel
theorem dX8_fleet_32 : decode cX8_fleet 32 = .ok (.istore 4, 2) := by decide +kernel
theorem dX8_fleet_34 : decode cX8_fleet 34 = .ok (.iload 4, 2) := by decide +kernel
theorem dX8_fleet_36 : decode cX8_fleet 36 = .ok (.aload_n 0, 1) := by decide +kernel
theorem dX8_fleet_37 : decode cX8_fleet 37 = .ok (.getfield 13, 3) := by decide +kernel
theorem dX8_fleet_40 : decode cX8_fleet 40 = .ok (.iconst 1, 1) := by decide +kernel
theorem dX8_fleet_41 : decode cX8_fleet 41 = .ok (.iaload, 1) := by decide +kernel
theorem dX8_fleet_42 : decode cX8_fleet 42 = .ok (.if_icmp .ge 81, 3) := by decide +kernel
theorem dX8_fleet_45 : decode cX8_fleet 45 = .ok (.aload_n 0, 1) := by decide +kernel
theorem dX8_fleet_46 : decode cX8_fleet 46 = .ok (.getfield 13, 3) := by decide +kernel
theorem dX8_fleet_49 : decode cX8_fleet 49 = .ok (.bipush 7, 2) := by decide +kernel
theorem dX8_fleet_51 : decode cX8_fleet 51 = .ok (.iload 4, 2) := by decide +kernel
theorem dX8_fleet_53 : decode cX8_fleet 53 = .ok (.iadd, 1) := by decide +kernel
theorem dX8_fleet_54 : decode cX8_fleet 54 = .ok (.iaload, 1) := by decide +kernel
theorem dX8_fleet_55 : decode cX8_fleet 55 = .ok (.iconst (-1), 1) := by decide +kernel
theorem dX8_fleet_56 : decode cX8_fleet 56 = .ok (.if_icmp .eq 16, 3) := by decide +kernel
theorem dX8_fleet_59 : decode cX8_fleet 59 = .ok (.aload_n 0, 1) := by decide +kernel
theorem dX8_fleet_60 : decode cX8_fleet 60 = .ok (.iload 4, 2) := by decide +kernel
theorem dX8_fleet_62 : decode cX8_fleet 62 = .ok (.invokevirtual 206, 3) := by decide +kernel
theorem dX8_fleet_65 : decode cX8_fleet 65 = .ok (.ifCond .ne 7, 3) := by decide +kernel
theorem dX8_fleet_68 : decode cX8_fleet 68 = .ok (.iconst 1, 1) := by decide +kernel
theorem dX8_fleet_69 : decode cX8_fleet 69 = .ok (.goto 4, 3) := by decide +kernel
theorem dX8_fleet_72 : decode cX8_fleet 72 = .ok (.iconst 0, 1) := by decide +kernel
theorem dX8_fleet_73 : decode cX8_fleet 73 = .ok (.istore 5, 2) := by decide +kernel
theorem dX8_fleet_75 : decode cX8_fleet 75 = .ok (.iload_n 3, 1) := by decide +kernel
theorem dX8_fleet_76 : decode cX8_fleet 76 = .ok (.iload 5, 2) := by decide +kernel
theorem dX8_fleet_78 : decode cX8_fleet 78 = .ok (.ifCond .eq 10, 3) := by decide +kernel
theorem dX8_fleet_81 : decode cX8_fleet 81 = .ok (.iconst 1, 1) := by decide +kernel
theorem dX8_fleet_82 : decode cX8_fleet 82 = .ok (.iload 4, 2) := by decide +kernel
theorem dX8_fleet_84 : decode cX8_fleet 84 = .ok (.ishl, 1) := by decide +kernel
theorem dX8_fleet_85 : decode cX8_fleet 85 = .ok (.goto 4, 3) := by decide +kernel
theorem dX8_fleet_88 : decode cX8_fleet 88 = .ok (.iconst 0, 1) := by decide +kernel
theorem dX8_fleet_89 : decode cX8_fleet 89 = .ok (.ior, 1) := by decide +kernel
theorem dX8_fleet_90 : decode cX8_fleet 90 = .ok (.istore_n 3, 1) := by decide +kernel
theorem dX8_fleet_91 : decode cX8_fleet 91 = .ok (.aload_n 0, 1) := by decide +kernel
theorem dX8_fleet_92 : decode cX8_fleet 92 = .ok (.getfield 114, 3) := by decide +kernel
theorem dX8_fleet_95 : decode cX8_fleet 95 = .ok (.iload 4, 2) := by decide +kernel
theorem dX8_fleet_97 : decode cX8_fleet 97 = .ok (.iload 5, 2) := by decide +kernel
theorem dX8_fleet_99 : decode cX8_fleet 99 = .ok (.ifCond .eq 16, 3) := by decide +kernel
theorem dX8_fleet_102 : decode cX8_fleet 102 = .ok (.aload_n 0, 1) := by decide +kernel
theorem dX8_fleet_103 : decode cX8_fleet 103 = .ok (.iload 4, 2) := by decide +kernel
theorem dX8_fleet_105 : decode cX8_fleet 105 = .ok (.iconst 0, 1) := by decide +kernel
theorem dX8_fleet_106 : decode cX8_fleet 106 = .ok (.bipush 99, 2) := by decide +kernel
theorem dX8_fleet_108 : decode cX8_fleet 108 = .ok (.iconst 0, 1) := by decide +kernel
theorem dX8_fleet_109 : decode cX8_fleet 109 = .ok (.invokevirtual 229, 3) := by decide +kernel
theorem dX8_fleet_112 : decode cX8_fleet 112 = .ok (.goto 4, 3) := by decide +kernel
theorem dX8_fleet_115 : decode cX8_fleet 115 = .ok (.iconst 0, 1) := by decide +kernel
theorem dX8_fleet_116 : decode cX8_fleet 116 = .ok (.iastore, 1) := by decide +kernel
theorem dX8_fleet_117 : decode cX8_fleet 117 = .ok (.iinc 4 1, 3) := by decide +kernel
theorem dX8_fleet_120 : decode cX8_fleet 120 = .ok (.goto (-86), 3) := by decide +kernel
theorem dX8_fleet_123 : decode cX8_fleet 123 = .ok (.ldc_w 470, 3) := by decide +kernel
theorem dX8_fleet_126 : decode cX8_fleet 126 = .ok (.istore 4, 2) := by decide +kernel
theorem dX8_fleet_128 : decode cX8_fleet 128 = .ok (.iconst 0, 1) := by decide +kernel
theorem dX8_fleet_129 : decode cX8_fleet 129 = .ok (.istore 5, 2) := by decide +kernel
theorem dX8_fleet_131 : decode cX8_fleet 131 = .ok (.iconst 0, 1) := by decide +kernel
theorem dX8_fleet_132 : decode cX8_fleet 132 = .ok (.istore 6, 2) := by decide +kernel
theorem dX8_fleet_134 : decode cX8_fleet 134 = .ok (.iload 6, 2) := by decide +kernel
theorem dX8_fleet_136 : decode cX8_fleet 136 = .ok (.iconst 1, 1) := by decide +kernel
theorem dX8_fleet_137 : decode cX8_fleet 137 = .ok (.aload_n 0, 1) := by decide +kernel
theorem dX8_fleet_138 : decode cX8_fleet 138 = .ok (.getfield 13, 3) := by decide +kernel
theorem dX8_fleet_141 : decode cX8_fleet 141 = .ok (.iconst 1, 1) := by decide +kernel
theorem dX8_fleet_142 : decode cX8_fleet 142 = .ok (.iaload, 1) := by decide +kernel
theorem dX8_fleet_143 : decode cX8_fleet 143 = .ok (.ishl, 1) := by decide +kernel
theorem dX8_fleet_144 : decode cX8_fleet 144 = .ok (.if_icmp .ge 94, 3) := by decide +kernel
theorem dX8_fleet_147 : decode cX8_fleet 147 = .ok (.iconst 0, 1) := by decide +kernel
theorem dX8_fleet_148 : decode cX8_fleet 148 = .ok (.istore 7, 2) := by decide +kernel
theorem dX8_fleet_150 : decode cX8_fleet 150 = .ok (.iconst 0, 1) := by decide +kernel
theorem dX8_fleet_151 : decode cX8_fleet 151 = .ok (.istore 8, 2) := by decide +kernel
theorem dX8_fleet_153 : decode cX8_fleet 153 = .ok (.iload 8, 2) := by decide +kernel
theorem dX8_fleet_155 : decode cX8_fleet 155 = .ok (.aload_n 0, 1) := by decide +kernel
theorem dX8_fleet_156 : decode cX8_fleet 156 = .ok (.getfield 13, 3) := by decide +kernel
theorem dX8_fleet_159 : decode cX8_fleet 159 = .ok (.iconst 1, 1) := by decide +kernel
theorem dX8_fleet_160 : decode cX8_fleet 160 = .ok (.iaload, 1) := by decide +kernel
theorem dX8_fleet_161 : decode cX8_fleet 161 = .ok (.if_icmp .ge 35, 3) := by decide +kernel
theorem dX8_fleet_164 : decode cX8_fleet 164 = .ok (.iload 7, 2) := by decide +kernel
theorem dX8_fleet_166 : decode cX8_fleet 166 = .ok (.iload 6, 2) := by decide +kernel
theorem dX8_fleet_168 : decode cX8_fleet 168 = .ok (.iload 8, 2) := by decide +kernel
theorem dX8_fleet_170 : decode cX8_fleet 170 = .ok (.invokestatic 471, 3) := by decide +kernel
theorem dX8_fleet_173 : decode cX8_fleet 173 = .ok (.ifCond .eq 13, 3) := by decide +kernel
theorem dX8_fleet_176 : decode cX8_fleet 176 = .ok (.aload_n 0, 1) := by decide +kernel
theorem dX8_fleet_177 : decode cX8_fleet 177 = .ok (.getfield 114, 3) := by decide +kernel
theorem dX8_fleet_180 : decode cX8_fleet 180 = .ok (.iload 8, 2) := by decide +kernel
theorem dX8_fleet_182 : decode cX8_fleet 182 = .ok (.iaload, 1) := by decide +kernel
theorem dX8_fleet_183 : decode cX8_fleet 183 = .ok (.goto 4, 3) := by decide +kernel
theorem dX8_fleet_186 : decode cX8_fleet 186 = .ok (.iconst 0, 1) := by decide +kernel
theorem dX8_fleet_187 : decode cX8_fleet 187 = .ok (.iadd, 1) := by decide +kernel
theorem dX8_fleet_188 : decode cX8_fleet 188 = .ok (.istore 7, 2) := by decide +kernel
theorem dX8_fleet_190 : decode cX8_fleet 190 = .ok (.iinc 8 1, 3) := by decide +kernel
theorem dX8_fleet_193 : decode cX8_fleet 193 = .ok (.goto (-40), 3) := by decide +kernel
theorem dX8_fleet_196 : decode cX8_fleet 196 = .ok (.iload 6, 2) := by decide +kernel
theorem dX8_fleet_198 : decode cX8_fleet 198 = .ok (.iload_n 3, 1) := by decide +kernel
theorem dX8_fleet_199 : decode cX8_fleet 199 = .ok (.iconst (-1), 1) := by decide +kernel
theorem dX8_fleet_200 : decode cX8_fleet 200 = .ok (.ixor, 1) := by decide +kernel
theorem dX8_fleet_201 : decode cX8_fleet 201 = .ok (.iand, 1) := by decide +kernel
theorem dX8_fleet_202 : decode cX8_fleet 202 = .ok (.ifCond .ne 30, 3) := by decide +kernel
theorem dX8_fleet_205 : decode cX8_fleet 205 = .ok (.iload 7, 2) := by decide +kernel
theorem dX8_fleet_207 : decode cX8_fleet 207 = .ok (.iload_n 1, 1) := by decide +kernel
theorem dX8_fleet_208 : decode cX8_fleet 208 = .ok (.if_icmp .lt 24, 3) := by decide +kernel
theorem dX8_fleet_211 : decode cX8_fleet 211 = .ok (.iload 6, 2) := by decide +kernel
theorem dX8_fleet_213 : decode cX8_fleet 213 = .ok (.invokestatic 474, 3) := by decide +kernel
theorem dX8_fleet_216 : decode cX8_fleet 216 = .ok (.iload 4, 2) := by decide +kernel
theorem dX8_fleet_218 : decode cX8_fleet 218 = .ok (.if_icmp .ge 14, 3) := by decide +kernel
theorem dX8_fleet_221 : decode cX8_fleet 221 = .ok (.iload 6, 2) := by decide +kernel
theorem dX8_fleet_223 : decode cX8_fleet 223 = .ok (.invokestatic 474, 3) := by decide +kernel
theorem dX8_fleet_226 : decode cX8_fleet 226 = .ok (.istore 4, 2) := by decide +kernel
theorem dX8_fleet_228 : decode cX8_fleet 228 = .ok (.iload 6, 2) := by decide +kernel
theorem dX8_fleet_230 : decode cX8_fleet 230 = .ok (.istore 5, 2) := by decide +kernel
theorem dX8_fleet_232 : decode cX8_fleet 232 = .ok (.iinc 6 1, 3) := by decide +kernel
theorem dX8_fleet_235 : decode cX8_fleet 235 = .ok (.goto (-101), 3) := by decide +kernel
theorem dX8_fleet_238 : decode cX8_fleet 238 = .ok (.iload 4, 2) := by decide +kernel
theorem dX8_fleet_240 : decode cX8_fleet 240 = .ok (.ldc_w 470, 3) := by decide +kernel
theorem dX8_fleet_243 : decode cX8_fleet 243 = .ok (.if_icmp .ne 7, 3) := by decide +kernel
theorem dX8_fleet_246 : decode cX8_fleet 246 = .ok (.iconst (-1), 1) := by decide +kernel
theorem dX8_fleet_247 : decode cX8_fleet 247 = .ok (.goto 14, 3) := by decide +kernel
theorem dX8_fleet_250 : decode cX8_fleet 250 = .ok (.iload_n 2, 1) := by decide +kernel
theorem dX8_fleet_251 : decode cX8_fleet 251 = .ok (.ifCond .ne 8, 3) := by decide +kernel
theorem dX8_fleet_254 : decode cX8_fleet 254 = .ok (.iload 4, 2) := by decide +kernel
theorem dX8_fleet_256 : decode cX8_fleet 256 = .ok (.goto 5, 3) := by decide +kernel
theorem dX8_fleet_259 : decode cX8_fleet 259 = .ok (.iload 5, 2) := by decide +kernel
theorem dX8_fleet_261 : decode cX8_fleet 261 = .ok (.ireturn, 1) := by decide +kernel
theorem dX8_worthOf_0 : decode cX8_worthOf 0 = .ok (.iload_n 1, 1) := by decide +kernel
theorem dX8_worthOf_1 : decode cX8_worthOf 1 = .ok (.ifCond .eq 31, 3) := by decide +kernel
theorem dX8_worthOf_4 : decode cX8_worthOf 4 = .ok (.aload_n 0, 1) := by decide +kernel
theorem dX8_worthOf_5 : decode cX8_worthOf 5 = .ok (.getfield 13, 3) := by decide +kernel
theorem dX8_worthOf_8 : decode cX8_worthOf 8 = .ok (.bipush 72, 2) := by decide +kernel
theorem dX8_worthOf_10 : decode cX8_worthOf 10 = .ok (.iload_n 2, 1) := by decide +kernel
theorem dX8_worthOf_11 : decode cX8_worthOf 11 = .ok (.iadd, 1) := by decide +kernel
theorem dX8_worthOf_12 : decode cX8_worthOf 12 = .ok (.iaload, 1) := by decide +kernel
theorem dX8_worthOf_13 : decode cX8_worthOf 13 = .ok (.aload_n 0, 1) := by decide +kernel
theorem dX8_worthOf_14 : decode cX8_worthOf 14 = .ok (.getfield 13, 3) := by decide +kernel
theorem dX8_worthOf_17 : decode cX8_worthOf 17 = .ok (.sipush 129, 3) := by decide +kernel
theorem dX8_worthOf_20 : decode cX8_worthOf 20 = .ok (.iload_n 3, 1) := by decide +kernel
theorem dX8_worthOf_21 : decode cX8_worthOf 21 = .ok (.iadd, 1) := by decide +kernel
theorem dX8_worthOf_22 : decode cX8_worthOf 22 = .ok (.iaload, 1) := by decide +kernel
theorem dX8_worthOf_23 : decode cX8_worthOf 23 = .ok (.if_icmp .le 7, 3) := by decide +kernel
theorem dX8_worthOf_26 : decode cX8_worthOf 26 = .ok (.iconst 1, 1) := by decide +kernel
theorem dX8_worthOf_27 : decode cX8_worthOf 27 = .ok (.goto 4, 3) := by decide +kernel
theorem dX8_worthOf_30 : decode cX8_worthOf 30 = .ok (.iconst 0, 1) := by decide +kernel
theorem dX8_worthOf_31 : decode cX8_worthOf 31 = .ok (.ireturn, 1) := by decide +kernel
theorem dX8_worthOf_32 : decode cX8_worthOf 32 = .ok (.aload_n 0, 1) := by decide +kernel
theorem dX8_worthOf_33 : decode cX8_worthOf 33 = .ok (.iload_n 2, 1) := by decide +kernel
theorem dX8_worthOf_34 : decode cX8_worthOf 34 = .ok (.iload_n 3, 1) := by decide +kernel
theorem dX8_worthOf_35 : decode cX8_worthOf 35 = .ok (.invokevirtual 209, 3) := by decide +kernel
theorem dX8_worthOf_38 : decode cX8_worthOf 38 = .ok (.ifCond .ne 7, 3) := by decide +kernel
theorem dX8_worthOf_41 : decode cX8_worthOf 41 = .ok (.iconst (-1), 1) := by decide +kernel
theorem dX8_worthOf_42 : decode cX8_worthOf 42 = .ok (.goto 24, 3) := by decide +kernel
theorem dX8_worthOf_45 : decode cX8_worthOf 45 = .ok (.bipush 16, 2) := by decide +kernel
theorem dX8_worthOf_47 : decode cX8_worthOf 47 = .ok (.aload_n 0, 1) := by decide +kernel
theorem dX8_worthOf_48 : decode cX8_worthOf 48 = .ok (.getfield 13, 3) := by decide +kernel
theorem dX8_worthOf_51 : decode cX8_worthOf 51 = .ok (.bipush 88, 2) := by decide +kernel
theorem dX8_worthOf_53 : decode cX8_worthOf 53 = .ok (.iload_n 2, 1) := by decide +kernel
theorem dX8_worthOf_54 : decode cX8_worthOf 54 = .ok (.iadd, 1) := by decide +kernel
theorem dX8_worthOf_55 : decode cX8_worthOf 55 = .ok (.iaload, 1) := by decide +kernel
theorem dX8_worthOf_56 : decode cX8_worthOf 56 = .ok (.iload_n 3, 1) := by decide +kernel
theorem dX8_worthOf_57 : decode cX8_worthOf 57 = .ok (.if_icmp .ne 7, 3) := by decide +kernel
theorem dX8_worthOf_60 : decode cX8_worthOf 60 = .ok (.iconst 1, 1) := by decide +kernel
theorem dX8_worthOf_61 : decode cX8_worthOf 61 = .ok (.goto 4, 3) := by decide +kernel
theorem dX8_worthOf_64 : decode cX8_worthOf 64 = .ok (.iconst 0, 1) := by decide +kernel
theorem dX8_worthOf_65 : decode cX8_worthOf 65 = .ok (.iadd, 1) := by decide +kernel
theorem dX8_worthOf_66 : decode cX8_worthOf 66 = .ok (.ireturn, 1) := by decide +kernel
theorem dX8_layMost_0 : decode cX8_layMost 0 = .ok (.aload_n 0, 1) := by decide +kernel
theorem dX8_layMost_1 : decode cX8_layMost 1 = .ok (.getfield 13, 3) := by decide +kernel
theorem dX8_layMost_4 : decode cX8_layMost 4 = .ok (.iconst 1, 1) := by decide +kernel
theorem dX8_layMost_5 : decode cX8_layMost 5 = .ok (.iaload, 1) := by decide +kernel
theorem dX8_layMost_6 : decode cX8_layMost 6 = .ok (.istore_n 2, 1) := by decide +kernel
theorem dX8_layMost_7 : decode cX8_layMost 7 = .ok (.iload_n 1, 1) := by decide +kernel
theorem dX8_layMost_8 : decode cX8_layMost 8 = .ok (.ifCond .eq 12, 3) := by decide +kernel
theorem dX8_layMost_11 : decode cX8_layMost 11 = .ok (.aload_n 0, 1) := by decide +kernel
theorem dX8_layMost_12 : decode cX8_layMost 12 = .ok (.getfield 13, 3) := by decide +kernel
theorem dX8_layMost_15 : decode cX8_layMost 15 = .ok (.iconst 2, 1) := by decide +kernel
theorem dX8_layMost_16 : decode cX8_layMost 16 = .ok (.iaload, 1) := by decide +kernel
theorem dX8_layMost_17 : decode cX8_layMost 17 = .ok (.goto 9, 3) := by decide +kernel
theorem dX8_layMost_20 : decode cX8_layMost 20 = .ok (.aload_n 0, 1) := by decide +kernel
theorem dX8_layMost_21 : decode cX8_layMost 21 = .ok (.getfield 13, 3) := by decide +kernel
theorem dX8_layMost_24 : decode cX8_layMost 24 = .ok (.iconst 0, 1) := by decide +kernel
theorem dX8_layMost_25 : decode cX8_layMost 25 = .ok (.iaload, 1) := by decide +kernel
theorem dX8_layMost_26 : decode cX8_layMost 26 = .ok (.istore_n 3, 1) := by decide +kernel
theorem dX8_layMost_27 : decode cX8_layMost 27 = .ok (.iconst 0, 1) := by decide +kernel
theorem dX8_layMost_28 : decode cX8_layMost 28 = .ok (.istore 4, 2) := by decide +kernel
theorem dX8_layMost_30 : decode cX8_layMost 30 = .ok (.iload 4, 2) := by decide +kernel
theorem dX8_layMost_32 : decode cX8_layMost 32 = .ok (.sipush 256, 3) := by decide +kernel
theorem dX8_layMost_35 : decode cX8_layMost 35 = .ok (.if_icmp .ge 23, 3) := by decide +kernel
theorem dX8_layMost_38 : decode cX8_layMost 38 = .ok (.aload_n 0, 1) := by decide +kernel
theorem dX8_layMost_39 : decode cX8_layMost 39 = .ok (.getfield 117, 3) := by decide +kernel
theorem dX8_layMost_42 : decode cX8_layMost 42 = .ok (.sipush 256, 3) := by decide +kernel
theorem dX8_layMost_45 : decode cX8_layMost 45 = .ok (.iload_n 2, 1) := by decide +kernel
theorem dX8_layMost_46 : decode cX8_layMost 46 = .ok (.imul, 1) := by decide +kernel
theorem dX8_layMost_47 : decode cX8_layMost 47 = .ok (.iload 4, 2) := by decide +kernel
theorem dX8_layMost_49 : decode cX8_layMost 49 = .ok (.iadd, 1) := by decide +kernel
theorem dX8_layMost_50 : decode cX8_layMost 50 = .ok (.iconst 0, 1) := by decide +kernel
theorem dX8_layMost_51 : decode cX8_layMost 51 = .ok (.iastore, 1) := by decide +kernel
theorem dX8_layMost_52 : decode cX8_layMost 52 = .ok (.iinc 4 1, 3) := by decide +kernel
theorem dX8_layMost_55 : decode cX8_layMost 55 = .ok (.goto (-25), 3) := by decide +kernel
theorem dX8_layMost_58 : decode cX8_layMost 58 = .ok (.iload_n 2, 1) := by decide +kernel
theorem dX8_layMost_59 : decode cX8_layMost 59 = .ok (.iconst 1, 1) := by decide +kernel
theorem dX8_layMost_60 : decode cX8_layMost 60 = .ok (.isub, 1) := by decide +kernel
theorem dX8_layMost_61 : decode cX8_layMost 61 = .ok (.istore 4, 2) := by decide +kernel
theorem dX8_layMost_63 : decode cX8_layMost 63 = .ok (.iload 4, 2) := by decide +kernel
theorem dX8_layMost_65 : decode cX8_layMost 65 = .ok (.ifCond .lt 210, 3) := by decide +kernel
theorem dX8_layMost_68 : decode cX8_layMost 68 = .ok (.iconst 0, 1) := by decide +kernel
theorem dX8_layMost_69 : decode cX8_layMost 69 = .ok (.istore 5, 2) := by decide +kernel
theorem dX8_layMost_71 : decode cX8_layMost 71 = .ok (.iload 5, 2) := by decide +kernel
theorem dX8_layMost_73 : decode cX8_layMost 73 = .ok (.iconst 1, 1) := by decide +kernel
theorem dX8_layMost_74 : decode cX8_layMost 74 = .ok (.iload_n 3, 1) := by decide +kernel
theorem dX8_layMost_75 : decode cX8_layMost 75 = .ok (.ishl, 1) := by decide +kernel
theorem dX8_layMost_76 : decode cX8_layMost 76 = .ok (.if_icmp .ge 41, 3) := by decide +kernel
theorem dX8_layMost_79 : decode cX8_layMost 79 = .ok (.aload_n 0, 1) := by decide +kernel
theorem dX8_layMost_80 : decode cX8_layMost 80 = .ok (.getfield 117, 3) := by decide +kernel
theorem dX8_layMost_83 : decode cX8_layMost 83 = .ok (.sipush 256, 3) := by decide +kernel
theorem dX8_layMost_86 : decode cX8_layMost 86 = .ok (.iload 4, 2) := by decide +kernel
theorem dX8_layMost_88 : decode cX8_layMost 88 = .ok (.imul, 1) := by decide +kernel
theorem dX8_layMost_89 : decode cX8_layMost 89 = .ok (.iload 5, 2) := by decide +kernel
theorem dX8_layMost_91 : decode cX8_layMost 91 = .ok (.iadd, 1) := by decide +kernel
theorem dX8_layMost_92 : decode cX8_layMost 92 = .ok (.aload_n 0, 1) := by decide +kernel
theorem dX8_layMost_93 : decode cX8_layMost 93 = .ok (.getfield 117, 3) := by decide +kernel
theorem dX8_layMost_96 : decode cX8_layMost 96 = .ok (.sipush 256, 3) := by decide +kernel
theorem dX8_layMost_99 : decode cX8_layMost 99 = .ok (.iload 4, 2) := by decide +kernel
theorem dX8_layMost_101 : decode cX8_layMost 101 = .ok (.imul, 1) := by decide +kernel
theorem dX8_layMost_102 : decode cX8_layMost 102 = .ok (.sipush 256, 3) := by decide +kernel
theorem dX8_layMost_105 : decode cX8_layMost 105 = .ok (.iadd, 1) := by decide +kernel
theorem dX8_layMost_106 : decode cX8_layMost 106 = .ok (.iload 5, 2) := by decide +kernel
theorem dX8_layMost_108 : decode cX8_layMost 108 = .ok (.iadd, 1) := by decide +kernel
theorem dX8_layMost_109 : decode cX8_layMost 109 = .ok (.iaload, 1) := by decide +kernel
theorem dX8_layMost_110 : decode cX8_layMost 110 = .ok (.iastore, 1) := by decide +kernel
theorem dX8_layMost_111 : decode cX8_layMost 111 = .ok (.iinc 5 1, 3) := by decide +kernel
theorem dX8_layMost_114 : decode cX8_layMost 114 = .ok (.goto (-43), 3) := by decide +kernel
theorem dX8_layMost_117 : decode cX8_layMost 117 = .ok (.iconst 0, 1) := by decide +kernel
theorem dX8_layMost_118 : decode cX8_layMost 118 = .ok (.istore 5, 2) := by decide +kernel
theorem dX8_layMost_120 : decode cX8_layMost 120 = .ok (.iload 5, 2) := by decide +kernel
theorem dX8_layMost_122 : decode cX8_layMost 122 = .ok (.iload_n 3, 1) := by decide +kernel
theorem dX8_layMost_123 : decode cX8_layMost 123 = .ok (.if_icmp .ge 146, 3) := by decide +kernel
theorem dX8_layMost_126 : decode cX8_layMost 126 = .ok (.aload_n 0, 1) := by decide +kernel
theorem dX8_layMost_127 : decode cX8_layMost 127 = .ok (.getfield 13, 3) := by decide +kernel
theorem dX8_layMost_130 : decode cX8_layMost 130 = .ok (.bipush 31, 2) := by decide +kernel
theorem dX8_layMost_132 : decode cX8_layMost 132 = .ok (.iload 4, 2) := by decide +kernel
theorem dX8_layMost_134 : decode cX8_layMost 134 = .ok (.iadd, 1) := by decide +kernel
theorem dX8_layMost_135 : decode cX8_layMost 135 = .ok (.iaload, 1) := by decide +kernel
theorem dX8_layMost_136 : decode cX8_layMost 136 = .ok (.ifCond .ne 133, 3) := by decide +kernel
theorem dX8_layMost_139 : decode cX8_layMost 139 = .ok (.aload_n 0, 1) := by decide +kernel
theorem dX8_layMost_140 : decode cX8_layMost 140 = .ok (.iload_n 1, 1) := by decide +kernel
theorem dX8_layMost_141 : decode cX8_layMost 141 = .ok (.iload 4, 2) := by decide +kernel
theorem dX8_layMost_143 : decode cX8_layMost 143 = .ok (.iload 5, 2) := by decide +kernel
theorem dX8_layMost_145 : decode cX8_layMost 145 = .ok (.invokevirtual 477, 3) := by decide +kernel
theorem dX8_layMost_148 : decode cX8_layMost 148 = .ok (.istore 6, 2) := by decide +kernel
theorem dX8_layMost_150 : decode cX8_layMost 150 = .ok (.iconst 0, 1) := by decide +kernel
theorem dX8_layMost_151 : decode cX8_layMost 151 = .ok (.istore 7, 2) := by decide +kernel
theorem dX8_layMost_153 : decode cX8_layMost 153 = .ok (.iload 7, 2) := by decide +kernel
theorem dX8_layMost_155 : decode cX8_layMost 155 = .ok (.iconst 1, 1) := by decide +kernel
theorem dX8_layMost_156 : decode cX8_layMost 156 = .ok (.iload_n 3, 1) := by decide +kernel
theorem dX8_layMost_157 : decode cX8_layMost 157 = .ok (.ishl, 1) := by decide +kernel
theorem dX8_layMost_158 : decode cX8_layMost 158 = .ok (.if_icmp .ge 105, 3) := by decide +kernel
theorem dX8_layMost_161 : decode cX8_layMost 161 = .ok (.iload 6, 2) := by decide +kernel
theorem dX8_layMost_163 : decode cX8_layMost 163 = .ok (.iconst (-1), 1) := by decide +kernel
theorem dX8_layMost_164 : decode cX8_layMost 164 = .ok (.if_icmp .eq 99, 3) := by decide +kernel
theorem dX8_layMost_167 : decode cX8_layMost 167 = .ok (.iload 7, 2) := by decide +kernel
theorem dX8_layMost_169 : decode cX8_layMost 169 = .ok (.iload 5, 2) := by decide +kernel
theorem dX8_layMost_171 : decode cX8_layMost 171 = .ok (.invokestatic 471, 3) := by decide +kernel
theorem dX8_layMost_174 : decode cX8_layMost 174 = .ok (.ifCond .ne 83, 3) := by decide +kernel
theorem dX8_layMost_177 : decode cX8_layMost 177 = .ok (.iload 6, 2) := by decide +kernel
theorem dX8_layMost_179 : decode cX8_layMost 179 = .ok (.aload_n 0, 1) := by decide +kernel
theorem dX8_layMost_180 : decode cX8_layMost 180 = .ok (.getfield 117, 3) := by decide +kernel
theorem dX8_layMost_183 : decode cX8_layMost 183 = .ok (.sipush 256, 3) := by decide +kernel
theorem dX8_layMost_186 : decode cX8_layMost 186 = .ok (.iload 4, 2) := by decide +kernel
theorem dX8_layMost_188 : decode cX8_layMost 188 = .ok (.imul, 1) := by decide +kernel
theorem dX8_layMost_189 : decode cX8_layMost 189 = .ok (.sipush 256, 3) := by decide +kernel
theorem dX8_layMost_192 : decode cX8_layMost 192 = .ok (.iadd, 1) := by decide +kernel
theorem dX8_layMost_193 : decode cX8_layMost 193 = .ok (.iload 7, 2) := by decide +kernel
theorem dX8_layMost_195 : decode cX8_layMost 195 = .ok (.iadd, 1) := by decide +kernel
theorem dX8_layMost_196 : decode cX8_layMost 196 = .ok (.iconst 1, 1) := by decide +kernel
theorem dX8_layMost_197 : decode cX8_layMost 197 = .ok (.iload 5, 2) := by decide +kernel
theorem dX8_layMost_199 : decode cX8_layMost 199 = .ok (.ishl, 1) := by decide +kernel
theorem dX8_layMost_200 : decode cX8_layMost 200 = .ok (.iadd, 1) := by decide +kernel
theorem dX8_layMost_201 : decode cX8_layMost 201 = .ok (.iaload, 1) := by decide +kernel
theorem dX8_layMost_202 : decode cX8_layMost 202 = .ok (.iadd, 1) := by decide +kernel
theorem dX8_layMost_203 : decode cX8_layMost 203 = .ok (.istore 8, 2) := by decide +kernel
theorem dX8_layMost_205 : decode cX8_layMost 205 = .ok (.aload_n 0, 1) := by decide +kernel
theorem dX8_layMost_206 : decode cX8_layMost 206 = .ok (.getfield 117, 3) := by decide +kernel
theorem dX8_layMost_209 : decode cX8_layMost 209 = .ok (.sipush 256, 3) := by decide +kernel
theorem dX8_layMost_212 : decode cX8_layMost 212 = .ok (.iload 4, 2) := by decide +kernel
theorem dX8_layMost_214 : decode cX8_layMost 214 = .ok (.imul, 1) := by decide +kernel
theorem dX8_layMost_215 : decode cX8_layMost 215 = .ok (.iload 7, 2) := by decide +kernel
theorem dX8_layMost_217 : decode cX8_layMost 217 = .ok (.iadd, 1) := by decide +kernel
theorem dX8_layMost_218 : decode cX8_layMost 218 = .ok (.iload 8, 2) := by decide +kernel
theorem dX8_layMost_220 : decode cX8_layMost 220 = .ok (.aload_n 0, 1) := by decide +kernel
theorem dX8_layMost_221 : decode cX8_layMost 221 = .ok (.getfield 117, 3) := by decide +kernel
theorem dX8_layMost_224 : decode cX8_layMost 224 = .ok (.sipush 256, 3) := by decide +kernel
theorem dX8_layMost_227 : decode cX8_layMost 227 = .ok (.iload 4, 2) := by decide +kernel
theorem dX8_layMost_229 : decode cX8_layMost 229 = .ok (.imul, 1) := by decide +kernel
theorem dX8_layMost_230 : decode cX8_layMost 230 = .ok (.iload 7, 2) := by decide +kernel
theorem dX8_layMost_232 : decode cX8_layMost 232 = .ok (.iadd, 1) := by decide +kernel
theorem dX8_layMost_233 : decode cX8_layMost 233 = .ok (.iaload, 1) := by decide +kernel
theorem dX8_layMost_234 : decode cX8_layMost 234 = .ok (.if_icmp .le 8, 3) := by decide +kernel
theorem dX8_layMost_237 : decode cX8_layMost 237 = .ok (.iload 8, 2) := by decide +kernel
theorem dX8_layMost_239 : decode cX8_layMost 239 = .ok (.goto 17, 3) := by decide +kernel
theorem dX8_layMost_242 : decode cX8_layMost 242 = .ok (.aload_n 0, 1) := by decide +kernel
theorem dX8_layMost_243 : decode cX8_layMost 243 = .ok (.getfield 117, 3) := by decide +kernel
theorem dX8_layMost_246 : decode cX8_layMost 246 = .ok (.sipush 256, 3) := by decide +kernel
theorem dX8_layMost_249 : decode cX8_layMost 249 = .ok (.iload 4, 2) := by decide +kernel
theorem dX8_layMost_251 : decode cX8_layMost 251 = .ok (.imul, 1) := by decide +kernel
theorem dX8_layMost_252 : decode cX8_layMost 252 = .ok (.iload 7, 2) := by decide +kernel
theorem dX8_layMost_254 : decode cX8_layMost 254 = .ok (.iadd, 1) := by decide +kernel
theorem dX8_layMost_255 : decode cX8_layMost 255 = .ok (.iaload, 1) := by decide +kernel
theorem dX8_layMost_256 : decode cX8_layMost 256 = .ok (.iastore, 1) := by decide +kernel
theorem dX8_layMost_257 : decode cX8_layMost 257 = .ok (.iinc 7 1, 3) := by decide +kernel
theorem dX8_layMost_260 : decode cX8_layMost 260 = .ok (.goto (-107), 3) := by decide +kernel
theorem dX8_layMost_263 : decode cX8_layMost 263 = .ok (.iinc 5 1, 3) := by decide +kernel
theorem dX8_layMost_266 : decode cX8_layMost 266 = .ok (.goto (-146), 3) := by decide +kernel
theorem dX8_layMost_269 : decode cX8_layMost 269 = .ok (.iinc 4 (-1), 3) := by decide +kernel
theorem dX8_layMost_272 : decode cX8_layMost 272 = .ok (.goto (-209), 3) := by decide +kernel
theorem dX8_layMost_275 : decode cX8_layMost 275 = .ok (.return_, 1) := by decide +kernel
theorem dX8_rowAt_0 : decode cX8_rowAt 0 = .ok (.iload_n 1, 1) := by decide +kernel
theorem dX8_rowAt_1 : decode cX8_rowAt 1 = .ok (.ifCond .eq 12, 3) := by decide +kernel
theorem dX8_rowAt_4 : decode cX8_rowAt 4 = .ok (.aload_n 0, 1) := by decide +kernel
theorem dX8_rowAt_5 : decode cX8_rowAt 5 = .ok (.getfield 13, 3) := by decide +kernel
theorem dX8_rowAt_8 : decode cX8_rowAt 8 = .ok (.iconst 2, 1) := by decide +kernel
theorem dX8_rowAt_9 : decode cX8_rowAt 9 = .ok (.iaload, 1) := by decide +kernel
theorem dX8_rowAt_10 : decode cX8_rowAt 10 = .ok (.goto 9, 3) := by decide +kernel
theorem dX8_rowAt_13 : decode cX8_rowAt 13 = .ok (.aload_n 0, 1) := by decide +kernel
theorem dX8_rowAt_14 : decode cX8_rowAt 14 = .ok (.getfield 13, 3) := by decide +kernel
theorem dX8_rowAt_17 : decode cX8_rowAt 17 = .ok (.iconst 0, 1) := by decide +kernel
theorem dX8_rowAt_18 : decode cX8_rowAt 18 = .ok (.iaload, 1) := by decide +kernel
theorem dX8_rowAt_19 : decode cX8_rowAt 19 = .ok (.istore_n 3, 1) := by decide +kernel
theorem dX8_rowAt_20 : decode cX8_rowAt 20 = .ok (.iconst 0, 1) := by decide +kernel
theorem dX8_rowAt_21 : decode cX8_rowAt 21 = .ok (.istore 4, 2) := by decide +kernel
theorem dX8_rowAt_23 : decode cX8_rowAt 23 = .ok (.bipush 100, 2) := by decide +kernel
theorem dX8_rowAt_25 : decode cX8_rowAt 25 = .ok (.istore 5, 2) := by decide +kernel
theorem dX8_rowAt_27 : decode cX8_rowAt 27 = .ok (.iconst 0, 1) := by decide +kernel
theorem dX8_rowAt_28 : decode cX8_rowAt 28 = .ok (.istore 6, 2) := by decide +kernel
theorem dX8_rowAt_30 : decode cX8_rowAt 30 = .ok (.iload 6, 2) := by decide +kernel
theorem dX8_rowAt_32 : decode cX8_rowAt 32 = .ok (.iload_n 2, 1) := by decide +kernel
theorem dX8_rowAt_33 : decode cX8_rowAt 33 = .ok (.if_icmp .gt 145, 3) := by decide +kernel
theorem dX8_rowAt_36 : decode cX8_rowAt 36 = .ok (.bipush 100, 2) := by decide +kernel
theorem dX8_rowAt_38 : decode cX8_rowAt 38 = .ok (.istore 5, 2) := by decide +kernel
theorem dX8_rowAt_40 : decode cX8_rowAt 40 = .ok (.iload_n 3, 1) := by decide +kernel
theorem dX8_rowAt_41 : decode cX8_rowAt 41 = .ok (.iconst 1, 1) := by decide +kernel
theorem dX8_rowAt_42 : decode cX8_rowAt 42 = .ok (.isub, 1) := by decide +kernel
theorem dX8_rowAt_43 : decode cX8_rowAt 43 = .ok (.istore 7, 2) := by decide +kernel
theorem dX8_rowAt_45 : decode cX8_rowAt 45 = .ok (.iload 7, 2) := by decide +kernel
theorem dX8_rowAt_47 : decode cX8_rowAt 47 = .ok (.ifCond .lt 105, 3) := by decide +kernel
theorem dX8_rowAt_50 : decode cX8_rowAt 50 = .ok (.aload_n 0, 1) := by decide +kernel
theorem dX8_rowAt_51 : decode cX8_rowAt 51 = .ok (.getfield 13, 3) := by decide +kernel
theorem dX8_rowAt_54 : decode cX8_rowAt 54 = .ok (.bipush 31, 2) := by decide +kernel
theorem dX8_rowAt_56 : decode cX8_rowAt 56 = .ok (.iload 6, 2) := by decide +kernel
theorem dX8_rowAt_58 : decode cX8_rowAt 58 = .ok (.iadd, 1) := by decide +kernel
theorem dX8_rowAt_59 : decode cX8_rowAt 59 = .ok (.iaload, 1) := by decide +kernel
theorem dX8_rowAt_60 : decode cX8_rowAt 60 = .ok (.ifCond .ne 92, 3) := by decide +kernel
theorem dX8_rowAt_63 : decode cX8_rowAt 63 = .ok (.iload 4, 2) := by decide +kernel
theorem dX8_rowAt_65 : decode cX8_rowAt 65 = .ok (.iload 7, 2) := by decide +kernel
theorem dX8_rowAt_67 : decode cX8_rowAt 67 = .ok (.invokestatic 471, 3) := by decide +kernel
theorem dX8_rowAt_70 : decode cX8_rowAt 70 = .ok (.ifCond .eq 7, 3) := by decide +kernel
theorem dX8_rowAt_73 : decode cX8_rowAt 73 = .ok (.iconst (-1), 1) := by decide +kernel
theorem dX8_rowAt_74 : decode cX8_rowAt 74 = .ok (.goto 12, 3) := by decide +kernel
theorem dX8_rowAt_77 : decode cX8_rowAt 77 = .ok (.aload_n 0, 1) := by decide +kernel
theorem dX8_rowAt_78 : decode cX8_rowAt 78 = .ok (.iload_n 1, 1) := by decide +kernel
theorem dX8_rowAt_79 : decode cX8_rowAt 79 = .ok (.iload 6, 2) := by decide +kernel
theorem dX8_rowAt_81 : decode cX8_rowAt 81 = .ok (.iload 7, 2) := by decide +kernel
theorem dX8_rowAt_83 : decode cX8_rowAt 83 = .ok (.invokevirtual 477, 3) := by decide +kernel
theorem dX8_rowAt_86 : decode cX8_rowAt 86 = .ok (.istore 8, 2) := by decide +kernel
theorem dX8_rowAt_88 : decode cX8_rowAt 88 = .ok (.iload 8, 2) := by decide +kernel
theorem dX8_rowAt_90 : decode cX8_rowAt 90 = .ok (.iconst (-1), 1) := by decide +kernel
theorem dX8_rowAt_91 : decode cX8_rowAt 91 = .ok (.if_icmp .eq 51, 3) := by decide +kernel
theorem dX8_rowAt_94 : decode cX8_rowAt 94 = .ok (.iload 8, 2) := by decide +kernel
theorem dX8_rowAt_96 : decode cX8_rowAt 96 = .ok (.aload_n 0, 1) := by decide +kernel
theorem dX8_rowAt_97 : decode cX8_rowAt 97 = .ok (.getfield 117, 3) := by decide +kernel
theorem dX8_rowAt_100 : decode cX8_rowAt 100 = .ok (.sipush 256, 3) := by decide +kernel
theorem dX8_rowAt_103 : decode cX8_rowAt 103 = .ok (.iload 6, 2) := by decide +kernel
theorem dX8_rowAt_105 : decode cX8_rowAt 105 = .ok (.imul, 1) := by decide +kernel
theorem dX8_rowAt_106 : decode cX8_rowAt 106 = .ok (.sipush 256, 3) := by decide +kernel
theorem dX8_rowAt_109 : decode cX8_rowAt 109 = .ok (.iadd, 1) := by decide +kernel
theorem dX8_rowAt_110 : decode cX8_rowAt 110 = .ok (.iload 4, 2) := by decide +kernel
theorem dX8_rowAt_112 : decode cX8_rowAt 112 = .ok (.iadd, 1) := by decide +kernel
theorem dX8_rowAt_113 : decode cX8_rowAt 113 = .ok (.iconst 1, 1) := by decide +kernel
theorem dX8_rowAt_114 : decode cX8_rowAt 114 = .ok (.iload 7, 2) := by decide +kernel
theorem dX8_rowAt_116 : decode cX8_rowAt 116 = .ok (.ishl, 1) := by decide +kernel
theorem dX8_rowAt_117 : decode cX8_rowAt 117 = .ok (.iadd, 1) := by decide +kernel
theorem dX8_rowAt_118 : decode cX8_rowAt 118 = .ok (.iaload, 1) := by decide +kernel
theorem dX8_rowAt_119 : decode cX8_rowAt 119 = .ok (.iadd, 1) := by decide +kernel
theorem dX8_rowAt_120 : decode cX8_rowAt 120 = .ok (.aload_n 0, 1) := by decide +kernel
theorem dX8_rowAt_121 : decode cX8_rowAt 121 = .ok (.getfield 117, 3) := by decide +kernel
theorem dX8_rowAt_124 : decode cX8_rowAt 124 = .ok (.sipush 256, 3) := by decide +kernel
theorem dX8_rowAt_127 : decode cX8_rowAt 127 = .ok (.iload 6, 2) := by decide +kernel
theorem dX8_rowAt_129 : decode cX8_rowAt 129 = .ok (.imul, 1) := by decide +kernel
theorem dX8_rowAt_130 : decode cX8_rowAt 130 = .ok (.iload 4, 2) := by decide +kernel
theorem dX8_rowAt_132 : decode cX8_rowAt 132 = .ok (.iadd, 1) := by decide +kernel
theorem dX8_rowAt_133 : decode cX8_rowAt 133 = .ok (.iaload, 1) := by decide +kernel
theorem dX8_rowAt_134 : decode cX8_rowAt 134 = .ok (.if_icmp .ne 8, 3) := by decide +kernel
theorem dX8_rowAt_137 : decode cX8_rowAt 137 = .ok (.iload 7, 2) := by decide +kernel
theorem dX8_rowAt_139 : decode cX8_rowAt 139 = .ok (.goto 5, 3) := by decide +kernel
theorem dX8_rowAt_142 : decode cX8_rowAt 142 = .ok (.iload 5, 2) := by decide +kernel
theorem dX8_rowAt_144 : decode cX8_rowAt 144 = .ok (.istore 5, 2) := by decide +kernel
theorem dX8_rowAt_146 : decode cX8_rowAt 146 = .ok (.iinc 7 (-1), 3) := by decide +kernel
theorem dX8_rowAt_149 : decode cX8_rowAt 149 = .ok (.goto (-104), 3) := by decide +kernel
theorem dX8_rowAt_152 : decode cX8_rowAt 152 = .ok (.iload 4, 2) := by decide +kernel
theorem dX8_rowAt_154 : decode cX8_rowAt 154 = .ok (.iload 5, 2) := by decide +kernel
theorem dX8_rowAt_156 : decode cX8_rowAt 156 = .ok (.bipush 100, 2) := by decide +kernel
theorem dX8_rowAt_158 : decode cX8_rowAt 158 = .ok (.if_icmp .ne 7, 3) := by decide +kernel
theorem dX8_rowAt_161 : decode cX8_rowAt 161 = .ok (.iconst 0, 1) := by decide +kernel
theorem dX8_rowAt_162 : decode cX8_rowAt 162 = .ok (.goto 7, 3) := by decide +kernel
theorem dX8_rowAt_165 : decode cX8_rowAt 165 = .ok (.iconst 1, 1) := by decide +kernel
theorem dX8_rowAt_166 : decode cX8_rowAt 166 = .ok (.iload 5, 2) := by decide +kernel
theorem dX8_rowAt_168 : decode cX8_rowAt 168 = .ok (.ishl, 1) := by decide +kernel
theorem dX8_rowAt_169 : decode cX8_rowAt 169 = .ok (.iadd, 1) := by decide +kernel
theorem dX8_rowAt_170 : decode cX8_rowAt 170 = .ok (.istore 4, 2) := by decide +kernel
theorem dX8_rowAt_172 : decode cX8_rowAt 172 = .ok (.iinc 6 1, 3) := by decide +kernel
theorem dX8_rowAt_175 : decode cX8_rowAt 175 = .ok (.goto (-145), 3) := by decide +kernel
theorem dX8_rowAt_178 : decode cX8_rowAt 178 = .ok (.iload 5, 2) := by decide +kernel
theorem dX8_rowAt_180 : decode cX8_rowAt 180 = .ok (.ireturn, 1) := by decide +kernel
theorem dX8_hanging_0 : decode cX8_hanging 0 = .ok (.aload_n 0, 1) := by decide +kernel
theorem dX8_hanging_1 : decode cX8_hanging 1 = .ok (.iconst 0, 1) := by decide +kernel
theorem dX8_hanging_2 : decode cX8_hanging 2 = .ok (.putfield 161, 3) := by decide +kernel
theorem dX8_hanging_5 : decode cX8_hanging 5 = .ok (.iload_n 1, 1) := by decide +kernel
theorem dX8_hanging_6 : decode cX8_hanging 6 = .ok (.ifCond .lt 33, 3) := by decide +kernel
theorem dX8_hanging_9 : decode cX8_hanging 9 = .ok (.iload_n 1, 1) := by decide +kernel
theorem dX8_hanging_10 : decode cX8_hanging 10 = .ok (.iconst 1, 1) := by decide +kernel
theorem dX8_hanging_11 : decode cX8_hanging 11 = .ok (.if_icmp .le 30, 3) := by decide +kernel
theorem dX8_hanging_14 : decode cX8_hanging 14 = .ok (.aload_n 0, 1) := by decide +kernel
theorem dX8_hanging_15 : decode cX8_hanging 15 = .ok (.iload_n 1, 1) := by decide +kernel
theorem dX8_hanging_16 : decode cX8_hanging 16 = .ok (.iconst 2, 1) := by decide +kernel
theorem dX8_hanging_17 : decode cX8_hanging 17 = .ok (.isub, 1) := by decide +kernel
theorem dX8_hanging_18 : decode cX8_hanging 18 = .ok (.invokevirtual 203, 3) := by decide +kernel
theorem dX8_hanging_21 : decode cX8_hanging 21 = .ok (.ifCond .eq 18, 3) := by decide +kernel
theorem dX8_hanging_24 : decode cX8_hanging 24 = .ok (.aload_n 0, 1) := by decide +kernel
theorem dX8_hanging_25 : decode cX8_hanging 25 = .ok (.getfield 13, 3) := by decide +kernel
theorem dX8_hanging_28 : decode cX8_hanging 28 = .ok (.bipush 31, 2) := by decide +kernel
theorem dX8_hanging_30 : decode cX8_hanging 30 = .ok (.iload_n 1, 1) := by decide +kernel
theorem dX8_hanging_31 : decode cX8_hanging 31 = .ok (.iadd, 1) := by decide +kernel
theorem dX8_hanging_32 : decode cX8_hanging 32 = .ok (.iconst 2, 1) := by decide +kernel
theorem dX8_hanging_33 : decode cX8_hanging 33 = .ok (.isub, 1) := by decide +kernel
theorem dX8_hanging_34 : decode cX8_hanging 34 = .ok (.iaload, 1) := by decide +kernel
theorem dX8_hanging_35 : decode cX8_hanging 35 = .ok (.iconst 1, 1) := by decide +kernel
theorem dX8_hanging_36 : decode cX8_hanging 36 = .ok (.if_icmp .ne 5, 3) := by decide +kernel
theorem dX8_hanging_39 : decode cX8_hanging 39 = .ok (.iconst (-1), 1) := by decide +kernel
theorem dX8_hanging_40 : decode cX8_hanging 40 = .ok (.ireturn, 1) := by decide +kernel
theorem dX8_hanging_41 : decode cX8_hanging 41 = .ok (.aload_n 0, 1) := by decide +kernel
theorem dX8_hanging_42 : decode cX8_hanging 42 = .ok (.iconst 0, 1) := by decide +kernel
theorem dX8_hanging_43 : decode cX8_hanging 43 = .ok (.invokevirtual 481, 3) := by decide +kernel
theorem dX8_hanging_46 : decode cX8_hanging 46 = .ok (.iload_n 1, 1) := by decide +kernel
theorem dX8_hanging_47 : decode cX8_hanging 47 = .ok (.ifCond .ne 15, 3) := by decide +kernel
theorem dX8_hanging_50 : decode cX8_hanging 50 = .ok (.aload_n 0, 1) := by decide +kernel
theorem dX8_hanging_51 : decode cX8_hanging 51 = .ok (.getfield 117, 3) := by decide +kernel
theorem dX8_hanging_54 : decode cX8_hanging 54 = .ok (.iconst 0, 1) := by decide +kernel
theorem dX8_hanging_55 : decode cX8_hanging 55 = .ok (.iaload, 1) := by decide +kernel
theorem dX8_hanging_56 : decode cX8_hanging 56 = .ok (.bipush 16, 2) := by decide +kernel
theorem dX8_hanging_58 : decode cX8_hanging 58 = .ok (.idiv, 1) := by decide +kernel
theorem dX8_hanging_59 : decode cX8_hanging 59 = .ok (.goto 28, 3) := by decide +kernel
theorem dX8_hanging_62 : decode cX8_hanging 62 = .ok (.iload_n 1, 1) := by decide +kernel
theorem dX8_hanging_63 : decode cX8_hanging 63 = .ok (.iconst 1, 1) := by decide +kernel
theorem dX8_hanging_64 : decode cX8_hanging 64 = .ok (.if_icmp .ne 15, 3) := by decide +kernel
theorem dX8_hanging_67 : decode cX8_hanging 67 = .ok (.aload_n 0, 1) := by decide +kernel
theorem dX8_hanging_68 : decode cX8_hanging 68 = .ok (.getfield 117, 3) := by decide +kernel
theorem dX8_hanging_71 : decode cX8_hanging 71 = .ok (.iconst 0, 1) := by decide +kernel
theorem dX8_hanging_72 : decode cX8_hanging 72 = .ok (.iaload, 1) := by decide +kernel
theorem dX8_hanging_73 : decode cX8_hanging 73 = .ok (.bipush 16, 2) := by decide +kernel
theorem dX8_hanging_75 : decode cX8_hanging 75 = .ok (.irem, 1) := by decide +kernel
theorem dX8_hanging_76 : decode cX8_hanging 76 = .ok (.goto 11, 3) := by decide +kernel
theorem dX8_hanging_79 : decode cX8_hanging 79 = .ok (.aload_n 0, 1) := by decide +kernel
theorem dX8_hanging_80 : decode cX8_hanging 80 = .ok (.iconst 0, 1) := by decide +kernel
theorem dX8_hanging_81 : decode cX8_hanging 81 = .ok (.iload_n 1, 1) := by decide +kernel
theorem dX8_hanging_82 : decode cX8_hanging 82 = .ok (.iconst 2, 1) := by decide +kernel
theorem dX8_hanging_83 : decode cX8_hanging 83 = .ok (.isub, 1) := by decide +kernel
theorem dX8_hanging_84 : decode cX8_hanging 84 = .ok (.invokevirtual 484, 3) := by decide +kernel
theorem dX8_hanging_87 : decode cX8_hanging 87 = .ok (.ireturn, 1) := by decide +kernel
theorem dX8_battle_0 : decode cX8_battle 0 = .ok (.aload_n 0, 1) := by decide +kernel
theorem dX8_battle_1 : decode cX8_battle 1 = .ok (.iconst 0, 1) := by decide +kernel
theorem dX8_battle_2 : decode cX8_battle 2 = .ok (.putfield 161, 3) := by decide +kernel
theorem dX8_battle_5 : decode cX8_battle 5 = .ok (.iload_n 1, 1) := by decide +kernel
theorem dX8_battle_6 : decode cX8_battle 6 = .ok (.ifCond .lt 32, 3) := by decide +kernel
theorem dX8_battle_9 : decode cX8_battle 9 = .ok (.iload_n 1, 1) := by decide +kernel
theorem dX8_battle_10 : decode cX8_battle 10 = .ok (.ifCond .le 30, 3) := by decide +kernel
theorem dX8_battle_13 : decode cX8_battle 13 = .ok (.aload_n 0, 1) := by decide +kernel
theorem dX8_battle_14 : decode cX8_battle 14 = .ok (.iload_n 1, 1) := by decide +kernel
theorem dX8_battle_15 : decode cX8_battle 15 = .ok (.iconst 1, 1) := by decide +kernel
theorem dX8_battle_16 : decode cX8_battle 16 = .ok (.isub, 1) := by decide +kernel
theorem dX8_battle_17 : decode cX8_battle 17 = .ok (.invokevirtual 203, 3) := by decide +kernel
theorem dX8_battle_20 : decode cX8_battle 20 = .ok (.ifCond .eq 18, 3) := by decide +kernel
theorem dX8_battle_23 : decode cX8_battle 23 = .ok (.aload_n 0, 1) := by decide +kernel
theorem dX8_battle_24 : decode cX8_battle 24 = .ok (.getfield 13, 3) := by decide +kernel
theorem dX8_battle_27 : decode cX8_battle 27 = .ok (.bipush 31, 2) := by decide +kernel
theorem dX8_battle_29 : decode cX8_battle 29 = .ok (.iload_n 1, 1) := by decide +kernel
theorem dX8_battle_30 : decode cX8_battle 30 = .ok (.iadd, 1) := by decide +kernel
theorem dX8_battle_31 : decode cX8_battle 31 = .ok (.iconst 1, 1) := by decide +kernel
theorem dX8_battle_32 : decode cX8_battle 32 = .ok (.isub, 1) := by decide +kernel
theorem dX8_battle_33 : decode cX8_battle 33 = .ok (.iaload, 1) := by decide +kernel
theorem dX8_battle_34 : decode cX8_battle 34 = .ok (.iconst 1, 1) := by decide +kernel
theorem dX8_battle_35 : decode cX8_battle 35 = .ok (.if_icmp .ne 5, 3) := by decide +kernel
theorem dX8_battle_38 : decode cX8_battle 38 = .ok (.iconst (-1), 1) := by decide +kernel
theorem dX8_battle_39 : decode cX8_battle 39 = .ok (.ireturn, 1) := by decide +kernel
theorem dX8_battle_40 : decode cX8_battle 40 = .ok (.aload_n 0, 1) := by decide +kernel
theorem dX8_battle_41 : decode cX8_battle 41 = .ok (.iconst 1, 1) := by decide +kernel
theorem dX8_battle_42 : decode cX8_battle 42 = .ok (.invokevirtual 481, 3) := by decide +kernel
theorem dX8_battle_45 : decode cX8_battle 45 = .ok (.iload_n 1, 1) := by decide +kernel
theorem dX8_battle_46 : decode cX8_battle 46 = .ok (.ifCond .ne 12, 3) := by decide +kernel
theorem dX8_battle_49 : decode cX8_battle 49 = .ok (.aload_n 0, 1) := by decide +kernel
theorem dX8_battle_50 : decode cX8_battle 50 = .ok (.getfield 117, 3) := by decide +kernel
theorem dX8_battle_53 : decode cX8_battle 53 = .ok (.iconst 0, 1) := by decide +kernel
theorem dX8_battle_54 : decode cX8_battle 54 = .ok (.iaload, 1) := by decide +kernel
theorem dX8_battle_55 : decode cX8_battle 55 = .ok (.goto 11, 3) := by decide +kernel
theorem dX8_battle_58 : decode cX8_battle 58 = .ok (.aload_n 0, 1) := by decide +kernel
theorem dX8_battle_59 : decode cX8_battle 59 = .ok (.iconst 1, 1) := by decide +kernel
theorem dX8_battle_60 : decode cX8_battle 60 = .ok (.iload_n 1, 1) := by decide +kernel
theorem dX8_battle_61 : decode cX8_battle 61 = .ok (.iconst 1, 1) := by decide +kernel
theorem dX8_battle_62 : decode cX8_battle 62 = .ok (.isub, 1) := by decide +kernel
theorem dX8_battle_63 : decode cX8_battle 63 = .ok (.invokevirtual 484, 3) := by decide +kernel
theorem dX8_battle_66 : decode cX8_battle 66 = .ok (.ireturn, 1) := by decide +kernel
theorem dX8_leadsRing_0 : decode cX8_leadsRing 0 = .ok (.iload_n 1, 1) := by decide +kernel
theorem dX8_leadsRing_1 : decode cX8_leadsRing 1 = .ok (.istore_n 2, 1) := by decide +kernel
theorem dX8_leadsRing_2 : decode cX8_leadsRing 2 = .ok (.iconst 1, 1) := by decide +kernel
theorem dX8_leadsRing_3 : decode cX8_leadsRing 3 = .ok (.istore_n 3, 1) := by decide +kernel
theorem dX8_leadsRing_4 : decode cX8_leadsRing 4 = .ok (.iconst 0, 1) := by decide +kernel
theorem dX8_leadsRing_5 : decode cX8_leadsRing 5 = .ok (.istore 4, 2) := by decide +kernel
theorem dX8_leadsRing_7 : decode cX8_leadsRing 7 = .ok (.iload 4, 2) := by decide +kernel
theorem dX8_leadsRing_9 : decode cX8_leadsRing 9 = .ok (.bipush 8, 2) := by decide +kernel
theorem dX8_leadsRing_11 : decode cX8_leadsRing 11 = .ok (.if_icmp .ge 71, 3) := by decide +kernel
theorem dX8_leadsRing_14 : decode cX8_leadsRing 14 = .ok (.aload_n 0, 1) := by decide +kernel
theorem dX8_leadsRing_15 : decode cX8_leadsRing 15 = .ok (.aload_n 0, 1) := by decide +kernel
theorem dX8_leadsRing_16 : decode cX8_leadsRing 16 = .ok (.getfield 13, 3) := by decide +kernel
theorem dX8_leadsRing_19 : decode cX8_leadsRing 19 = .ok (.bipush 88, 2) := by decide +kernel
theorem dX8_leadsRing_21 : decode cX8_leadsRing 21 = .ok (.iload_n 2, 1) := by decide +kernel
theorem dX8_leadsRing_22 : decode cX8_leadsRing 22 = .ok (.iadd, 1) := by decide +kernel
theorem dX8_leadsRing_23 : decode cX8_leadsRing 23 = .ok (.iaload, 1) := by decide +kernel
theorem dX8_leadsRing_24 : decode cX8_leadsRing 24 = .ok (.invokevirtual 200, 3) := by decide +kernel
theorem dX8_leadsRing_27 : decode cX8_leadsRing 27 = .ok (.istore 5, 2) := by decide +kernel
theorem dX8_leadsRing_29 : decode cX8_leadsRing 29 = .ok (.iload 5, 2) := by decide +kernel
theorem dX8_leadsRing_31 : decode cX8_leadsRing 31 = .ok (.iconst (-1), 1) := by decide +kernel
theorem dX8_leadsRing_32 : decode cX8_leadsRing 32 = .ok (.if_icmp .eq 9, 3) := by decide +kernel
theorem dX8_leadsRing_35 : decode cX8_leadsRing 35 = .ok (.iload 5, 2) := by decide +kernel
theorem dX8_leadsRing_37 : decode cX8_leadsRing 37 = .ok (.iload_n 1, 1) := by decide +kernel
theorem dX8_leadsRing_38 : decode cX8_leadsRing 38 = .ok (.if_icmp .ne 19, 3) := by decide +kernel
theorem dX8_leadsRing_41 : decode cX8_leadsRing 41 = .ok (.iload 5, 2) := by decide +kernel
theorem dX8_leadsRing_43 : decode cX8_leadsRing 43 = .ok (.iload_n 1, 1) := by decide +kernel
theorem dX8_leadsRing_44 : decode cX8_leadsRing 44 = .ok (.if_icmp .ne 11, 3) := by decide +kernel
theorem dX8_leadsRing_47 : decode cX8_leadsRing 47 = .ok (.iload_n 3, 1) := by decide +kernel
theorem dX8_leadsRing_48 : decode cX8_leadsRing 48 = .ok (.ifCond .eq 7, 3) := by decide +kernel
theorem dX8_leadsRing_51 : decode cX8_leadsRing 51 = .ok (.iconst 1, 1) := by decide +kernel
theorem dX8_leadsRing_52 : decode cX8_leadsRing 52 = .ok (.goto 4, 3) := by decide +kernel
theorem dX8_leadsRing_55 : decode cX8_leadsRing 55 = .ok (.iconst 0, 1) := by decide +kernel
theorem dX8_leadsRing_56 : decode cX8_leadsRing 56 = .ok (.ireturn, 1) := by decide +kernel
theorem dX8_leadsRing_57 : decode cX8_leadsRing 57 = .ok (.iload_n 3, 1) := by decide +kernel
theorem dX8_leadsRing_58 : decode cX8_leadsRing 58 = .ok (.ifCond .eq 13, 3) := by decide +kernel
theorem dX8_leadsRing_61 : decode cX8_leadsRing 61 = .ok (.iload 5, 2) := by decide +kernel
theorem dX8_leadsRing_63 : decode cX8_leadsRing 63 = .ok (.iload_n 1, 1) := by decide +kernel
theorem dX8_leadsRing_64 : decode cX8_leadsRing 64 = .ok (.if_icmp .le 7, 3) := by decide +kernel
theorem dX8_leadsRing_67 : decode cX8_leadsRing 67 = .ok (.iconst 1, 1) := by decide +kernel
theorem dX8_leadsRing_68 : decode cX8_leadsRing 68 = .ok (.goto 4, 3) := by decide +kernel
theorem dX8_leadsRing_71 : decode cX8_leadsRing 71 = .ok (.iconst 0, 1) := by decide +kernel
theorem dX8_leadsRing_72 : decode cX8_leadsRing 72 = .ok (.istore_n 3, 1) := by decide +kernel
theorem dX8_leadsRing_73 : decode cX8_leadsRing 73 = .ok (.iload 5, 2) := by decide +kernel
theorem dX8_leadsRing_75 : decode cX8_leadsRing 75 = .ok (.istore_n 2, 1) := by decide +kernel
theorem dX8_leadsRing_76 : decode cX8_leadsRing 76 = .ok (.iinc 4 1, 3) := by decide +kernel
theorem dX8_leadsRing_79 : decode cX8_leadsRing 79 = .ok (.goto (-72), 3) := by decide +kernel
theorem dX8_leadsRing_82 : decode cX8_leadsRing 82 = .ok (.iconst 0, 1) := by decide +kernel
theorem dX8_leadsRing_83 : decode cX8_leadsRing 83 = .ok (.ireturn, 1) := by decide +kernel
theorem dX8_right_0 : decode cX8_right 0 = .ok (.aload_n 0, 1) := by decide +kernel
theorem dX8_right_1 : decode cX8_right 1 = .ok (.iconst 0, 1) := by decide +kernel
theorem dX8_right_2 : decode cX8_right 2 = .ok (.putfield 161, 3) := by decide +kernel
theorem dX8_right_5 : decode cX8_right 5 = .ok (.iconst 0, 1) := by decide +kernel
theorem dX8_right_6 : decode cX8_right 6 = .ok (.istore_n 1, 1) := by decide +kernel
theorem dX8_right_7 : decode cX8_right 7 = .ok (.iconst 0, 1) := by decide +kernel
theorem dX8_right_8 : decode cX8_right 8 = .ok (.istore_n 2, 1) := by decide +kernel
theorem dX8_right_9 : decode cX8_right 9 = .ok (.iload_n 2, 1) := by decide +kernel
theorem dX8_right_10 : decode cX8_right 10 = .ok (.aload_n 0, 1) := by decide +kernel
theorem dX8_right_11 : decode cX8_right 11 = .ok (.getfield 13, 3) := by decide +kernel
theorem dX8_right_14 : decode cX8_right 14 = .ok (.iconst 1, 1) := by decide +kernel
theorem dX8_right_15 : decode cX8_right 15 = .ok (.iaload, 1) := by decide +kernel
theorem dX8_right_16 : decode cX8_right 16 = .ok (.if_icmp .ge 122, 3) := by decide +kernel
theorem dX8_right_19 : decode cX8_right 19 = .ok (.aload_n 0, 1) := by decide +kernel
theorem dX8_right_20 : decode cX8_right 20 = .ok (.getfield 13, 3) := by decide +kernel
theorem dX8_right_23 : decode cX8_right 23 = .ok (.bipush 7, 2) := by decide +kernel
theorem dX8_right_25 : decode cX8_right 25 = .ok (.iload_n 2, 1) := by decide +kernel
theorem dX8_right_26 : decode cX8_right 26 = .ok (.iadd, 1) := by decide +kernel
theorem dX8_right_27 : decode cX8_right 27 = .ok (.iaload, 1) := by decide +kernel
theorem dX8_right_28 : decode cX8_right 28 = .ok (.iconst (-1), 1) := by decide +kernel
theorem dX8_right_29 : decode cX8_right 29 = .ok (.if_icmp .eq 103, 3) := by decide +kernel
theorem dX8_right_32 : decode cX8_right 32 = .ok (.iconst 0, 1) := by decide +kernel
theorem dX8_right_33 : decode cX8_right 33 = .ok (.istore_n 3, 1) := by decide +kernel
theorem dX8_right_34 : decode cX8_right 34 = .ok (.iload_n 3, 1) := by decide +kernel
theorem dX8_right_35 : decode cX8_right 35 = .ok (.iload_n 2, 1) := by decide +kernel
theorem dX8_right_36 : decode cX8_right 36 = .ok (.if_icmp .ge 45, 3) := by decide +kernel
theorem dX8_right_39 : decode cX8_right 39 = .ok (.aload_n 0, 1) := by decide +kernel
theorem dX8_right_40 : decode cX8_right 40 = .ok (.getfield 13, 3) := by decide +kernel
theorem dX8_right_43 : decode cX8_right 43 = .ok (.bipush 7, 2) := by decide +kernel
theorem dX8_right_45 : decode cX8_right 45 = .ok (.iload_n 3, 1) := by decide +kernel
theorem dX8_right_46 : decode cX8_right 46 = .ok (.iadd, 1) := by decide +kernel
theorem dX8_right_47 : decode cX8_right 47 = .ok (.iaload, 1) := by decide +kernel
theorem dX8_right_48 : decode cX8_right 48 = .ok (.iconst (-1), 1) := by decide +kernel
theorem dX8_right_49 : decode cX8_right 49 = .ok (.if_icmp .eq 26, 3) := by decide +kernel
theorem dX8_right_52 : decode cX8_right 52 = .ok (.aload_n 0, 1) := by decide +kernel
theorem dX8_right_53 : decode cX8_right 53 = .ok (.getfield 13, 3) := by decide +kernel
theorem dX8_right_56 : decode cX8_right 56 = .ok (.bipush 88, 2) := by decide +kernel
theorem dX8_right_58 : decode cX8_right 58 = .ok (.iload_n 3, 1) := by decide +kernel
theorem dX8_right_59 : decode cX8_right 59 = .ok (.iadd, 1) := by decide +kernel
theorem dX8_right_60 : decode cX8_right 60 = .ok (.iaload, 1) := by decide +kernel
theorem dX8_right_61 : decode cX8_right 61 = .ok (.aload_n 0, 1) := by decide +kernel
theorem dX8_right_62 : decode cX8_right 62 = .ok (.getfield 13, 3) := by decide +kernel
theorem dX8_right_65 : decode cX8_right 65 = .ok (.bipush 88, 2) := by decide +kernel
theorem dX8_right_67 : decode cX8_right 67 = .ok (.iload_n 2, 1) := by decide +kernel
theorem dX8_right_68 : decode cX8_right 68 = .ok (.iadd, 1) := by decide +kernel
theorem dX8_right_69 : decode cX8_right 69 = .ok (.iaload, 1) := by decide +kernel
theorem dX8_right_70 : decode cX8_right 70 = .ok (.if_icmp .ne 5, 3) := by decide +kernel
theorem dX8_right_73 : decode cX8_right 73 = .ok (.iconst (-1), 1) := by decide +kernel
theorem dX8_right_74 : decode cX8_right 74 = .ok (.ireturn, 1) := by decide +kernel
theorem dX8_right_75 : decode cX8_right 75 = .ok (.iinc 3 1, 3) := by decide +kernel
theorem dX8_right_78 : decode cX8_right 78 = .ok (.goto (-44), 3) := by decide +kernel
theorem dX8_right_81 : decode cX8_right 81 = .ok (.aload_n 0, 1) := by decide +kernel
theorem dX8_right_82 : decode cX8_right 82 = .ok (.getfield 13, 3) := by decide +kernel
theorem dX8_right_85 : decode cX8_right 85 = .ok (.bipush 7, 2) := by decide +kernel
theorem dX8_right_87 : decode cX8_right 87 = .ok (.iload_n 2, 1) := by decide +kernel
theorem dX8_right_88 : decode cX8_right 88 = .ok (.iadd, 1) := by decide +kernel
theorem dX8_right_89 : decode cX8_right 89 = .ok (.iaload, 1) := by decide +kernel
theorem dX8_right_90 : decode cX8_right 90 = .ok (.aload_n 0, 1) := by decide +kernel
theorem dX8_right_91 : decode cX8_right 91 = .ok (.getfield 13, 3) := by decide +kernel
theorem dX8_right_94 : decode cX8_right 94 = .ok (.bipush 88, 2) := by decide +kernel
theorem dX8_right_96 : decode cX8_right 96 = .ok (.iload_n 2, 1) := by decide +kernel
theorem dX8_right_97 : decode cX8_right 97 = .ok (.iadd, 1) := by decide +kernel
theorem dX8_right_98 : decode cX8_right 98 = .ok (.iaload, 1) := by decide +kernel
theorem dX8_right_99 : decode cX8_right 99 = .ok (.if_icmp .eq 7, 3) := by decide +kernel
theorem dX8_right_102 : decode cX8_right 102 = .ok (.iconst 1, 1) := by decide +kernel
theorem dX8_right_103 : decode cX8_right 103 = .ok (.goto 4, 3) := by decide +kernel
theorem dX8_right_106 : decode cX8_right 106 = .ok (.iconst 0, 1) := by decide +kernel
theorem dX8_right_107 : decode cX8_right 107 = .ok (.istore_n 3, 1) := by decide +kernel
theorem dX8_right_108 : decode cX8_right 108 = .ok (.iload_n 1, 1) := by decide +kernel
theorem dX8_right_109 : decode cX8_right 109 = .ok (.iload_n 3, 1) := by decide +kernel
theorem dX8_right_110 : decode cX8_right 110 = .ok (.ifCond .eq 19, 3) := by decide +kernel
theorem dX8_right_113 : decode cX8_right 113 = .ok (.aload_n 0, 1) := by decide +kernel
theorem dX8_right_114 : decode cX8_right 114 = .ok (.iload_n 2, 1) := by decide +kernel
theorem dX8_right_115 : decode cX8_right 115 = .ok (.invokevirtual 488, 3) := by decide +kernel
theorem dX8_right_118 : decode cX8_right 118 = .ok (.ifCond .eq 7, 3) := by decide +kernel
theorem dX8_right_121 : decode cX8_right 121 = .ok (.iconst 0, 1) := by decide +kernel
theorem dX8_right_122 : decode cX8_right 122 = .ok (.goto 8, 3) := by decide +kernel
theorem dX8_right_125 : decode cX8_right 125 = .ok (.iconst 1, 1) := by decide +kernel
theorem dX8_right_126 : decode cX8_right 126 = .ok (.goto 4, 3) := by decide +kernel
theorem dX8_right_129 : decode cX8_right 129 = .ok (.iconst 0, 1) := by decide +kernel
theorem dX8_right_130 : decode cX8_right 130 = .ok (.iadd, 1) := by decide +kernel
theorem dX8_right_131 : decode cX8_right 131 = .ok (.istore_n 1, 1) := by decide +kernel
theorem dX8_right_132 : decode cX8_right 132 = .ok (.iinc 2 1, 3) := by decide +kernel
theorem dX8_right_135 : decode cX8_right 135 = .ok (.goto (-126), 3) := by decide +kernel
theorem dX8_right_138 : decode cX8_right 138 = .ok (.iload_n 1, 1) := by decide +kernel
theorem dX8_right_139 : decode cX8_right 139 = .ok (.ireturn, 1) := by decide +kernel
theorem dX8_heard_0 : decode cX8_heard 0 = .ok (.aload_n 0, 1) := by decide +kernel
theorem dX8_heard_1 : decode cX8_heard 1 = .ok (.iconst 0, 1) := by decide +kernel
theorem dX8_heard_2 : decode cX8_heard 2 = .ok (.putfield 161, 3) := by decide +kernel
theorem dX8_heard_5 : decode cX8_heard 5 = .ok (.iload_n 1, 1) := by decide +kernel
theorem dX8_heard_6 : decode cX8_heard 6 = .ok (.i2l, 1) := by decide +kernel
theorem dX8_heard_7 : decode cX8_heard 7 = .ok (.lconst 0, 1) := by decide +kernel
theorem dX8_heard_8 : decode cX8_heard 8 = .ok (.ldc2_w 194, 3) := by decide +kernel
theorem dX8_heard_11 : decode cX8_heard 11 = .ok (.invokestatic 181, 3) := by decide +kernel
theorem dX8_heard_14 : decode cX8_heard 14 = .ok (.ifCond .eq 15, 3) := by decide +kernel
theorem dX8_heard_17 : decode cX8_heard 17 = .ok (.iload_n 2, 1) := by decide +kernel
theorem dX8_heard_18 : decode cX8_heard 18 = .ok (.i2l, 1) := by decide +kernel
theorem dX8_heard_19 : decode cX8_heard 19 = .ok (.lconst 0, 1) := by decide +kernel
theorem dX8_heard_20 : decode cX8_heard 20 = .ok (.ldc2_w 491, 3) := by decide +kernel
theorem dX8_heard_23 : decode cX8_heard 23 = .ok (.invokestatic 181, 3) := by decide +kernel
theorem dX8_heard_26 : decode cX8_heard 26 = .ok (.ifCond .ne 5, 3) := by decide +kernel
theorem dX8_heard_29 : decode cX8_heard 29 = .ok (.iconst (-1), 1) := by decide +kernel
theorem dX8_heard_30 : decode cX8_heard 30 = .ok (.ireturn, 1) := by decide +kernel
theorem dX8_heard_31 : decode cX8_heard 31 = .ok (.iconst 0, 1) := by decide +kernel
theorem dX8_heard_32 : decode cX8_heard 32 = .ok (.istore_n 3, 1) := by decide +kernel
theorem dX8_heard_33 : decode cX8_heard 33 = .ok (.iconst 0, 1) := by decide +kernel
theorem dX8_heard_34 : decode cX8_heard 34 = .ok (.istore 4, 2) := by decide +kernel
theorem dX8_heard_36 : decode cX8_heard 36 = .ok (.iload 4, 2) := by decide +kernel
theorem dX8_heard_38 : decode cX8_heard 38 = .ok (.aload_n 0, 1) := by decide +kernel
theorem dX8_heard_39 : decode cX8_heard 39 = .ok (.getfield 13, 3) := by decide +kernel
theorem dX8_heard_42 : decode cX8_heard 42 = .ok (.iconst 1, 1) := by decide +kernel
theorem dX8_heard_43 : decode cX8_heard 43 = .ok (.iaload, 1) := by decide +kernel
theorem dX8_heard_44 : decode cX8_heard 44 = .ok (.if_icmp .ge 39, 3) := by decide +kernel
theorem dX8_heard_47 : decode cX8_heard 47 = .ok (.iload_n 3, 1) := by decide +kernel
theorem dX8_heard_48 : decode cX8_heard 48 = .ok (.iload_n 1, 1) := by decide +kernel
theorem dX8_heard_49 : decode cX8_heard 49 = .ok (.aload_n 0, 1) := by decide +kernel
theorem dX8_heard_50 : decode cX8_heard 50 = .ok (.getfield 13, 3) := by decide +kernel
theorem dX8_heard_53 : decode cX8_heard 53 = .ok (.bipush 96, 2) := by decide +kernel
theorem dX8_heard_55 : decode cX8_heard 55 = .ok (.iload 4, 2) := by decide +kernel
theorem dX8_heard_57 : decode cX8_heard 57 = .ok (.iadd, 1) := by decide +kernel
theorem dX8_heard_58 : decode cX8_heard 58 = .ok (.iaload, 1) := by decide +kernel
theorem dX8_heard_59 : decode cX8_heard 59 = .ok (.ixor, 1) := by decide +kernel
theorem dX8_heard_60 : decode cX8_heard 60 = .ok (.invokestatic 474, 3) := by decide +kernel
theorem dX8_heard_63 : decode cX8_heard 63 = .ok (.iload_n 2, 1) := by decide +kernel
theorem dX8_heard_64 : decode cX8_heard 64 = .ok (.if_icmp .gt 10, 3) := by decide +kernel
theorem dX8_heard_67 : decode cX8_heard 67 = .ok (.iconst 1, 1) := by decide +kernel
theorem dX8_heard_68 : decode cX8_heard 68 = .ok (.iload 4, 2) := by decide +kernel
theorem dX8_heard_70 : decode cX8_heard 70 = .ok (.ishl, 1) := by decide +kernel
theorem dX8_heard_71 : decode cX8_heard 71 = .ok (.goto 4, 3) := by decide +kernel
theorem dX8_heard_74 : decode cX8_heard 74 = .ok (.iconst 0, 1) := by decide +kernel
theorem dX8_heard_75 : decode cX8_heard 75 = .ok (.ior, 1) := by decide +kernel
theorem dX8_heard_76 : decode cX8_heard 76 = .ok (.istore_n 3, 1) := by decide +kernel
theorem dX8_heard_77 : decode cX8_heard 77 = .ok (.iinc 4 1, 3) := by decide +kernel
theorem dX8_heard_80 : decode cX8_heard 80 = .ok (.goto (-44), 3) := by decide +kernel
theorem dX8_heard_83 : decode cX8_heard 83 = .ok (.iload_n 3, 1) := by decide +kernel
theorem dX8_heard_84 : decode cX8_heard 84 = .ok (.ireturn, 1) := by decide +kernel
theorem dX8_knock_0 : decode cX8_knock 0 = .ok (.aload_n 0, 1) := by decide +kernel
theorem dX8_knock_1 : decode cX8_knock 1 = .ok (.iconst 0, 1) := by decide +kernel
theorem dX8_knock_2 : decode cX8_knock 2 = .ok (.putfield 161, 3) := by decide +kernel
theorem dX8_knock_5 : decode cX8_knock 5 = .ok (.iload_n 1, 1) := by decide +kernel
theorem dX8_knock_6 : decode cX8_knock 6 = .ok (.i2l, 1) := by decide +kernel
theorem dX8_knock_7 : decode cX8_knock 7 = .ok (.lconst 0, 1) := by decide +kernel
theorem dX8_knock_8 : decode cX8_knock 8 = .ok (.lconst 1, 1) := by decide +kernel
theorem dX8_knock_9 : decode cX8_knock 9 = .ok (.invokestatic 181, 3) := by decide +kernel
theorem dX8_knock_12 : decode cX8_knock 12 = .ok (.ifCond .ne 5, 3) := by decide +kernel
theorem dX8_knock_15 : decode cX8_knock 15 = .ok (.iconst (-1), 1) := by decide +kernel
theorem dX8_knock_16 : decode cX8_knock 16 = .ok (.ireturn, 1) := by decide +kernel
theorem dX8_knock_17 : decode cX8_knock 17 = .ok (.iconst (-1), 1) := by decide +kernel
theorem dX8_knock_18 : decode cX8_knock 18 = .ok (.istore_n 2, 1) := by decide +kernel
theorem dX8_knock_19 : decode cX8_knock 19 = .ok (.iconst 0, 1) := by decide +kernel
theorem dX8_knock_20 : decode cX8_knock 20 = .ok (.istore_n 3, 1) := by decide +kernel
theorem dX8_knock_21 : decode cX8_knock 21 = .ok (.iconst 0, 1) := by decide +kernel
theorem dX8_knock_22 : decode cX8_knock 22 = .ok (.istore 4, 2) := by decide +kernel
theorem dX8_knock_24 : decode cX8_knock 24 = .ok (.iload 4, 2) := by decide +kernel
theorem dX8_knock_26 : decode cX8_knock 26 = .ok (.bipush 64, 2) := by decide +kernel
theorem dX8_knock_28 : decode cX8_knock 28 = .ok (.if_icmp .ge 93, 3) := by decide +kernel
theorem dX8_knock_31 : decode cX8_knock 31 = .ok (.bipush 6, 2) := by decide +kernel
theorem dX8_knock_33 : decode cX8_knock 33 = .ok (.istore 5, 2) := by decide +kernel
theorem dX8_knock_35 : decode cX8_knock 35 = .ok (.iconst 0, 1) := by decide +kernel
theorem dX8_knock_36 : decode cX8_knock 36 = .ok (.istore 6, 2) := by decide +kernel
theorem dX8_knock_38 : decode cX8_knock 38 = .ok (.iload 6, 2) := by decide +kernel
theorem dX8_knock_40 : decode cX8_knock 40 = .ok (.aload_n 0, 1) := by decide +kernel
theorem dX8_knock_41 : decode cX8_knock 41 = .ok (.getfield 13, 3) := by decide +kernel
theorem dX8_knock_44 : decode cX8_knock 44 = .ok (.iconst 1, 1) := by decide +kernel
theorem dX8_knock_45 : decode cX8_knock 45 = .ok (.iaload, 1) := by decide +kernel
theorem dX8_knock_46 : decode cX8_knock 46 = .ok (.if_icmp .ge 43, 3) := by decide +kernel
theorem dX8_knock_49 : decode cX8_knock 49 = .ok (.iload 4, 2) := by decide +kernel
theorem dX8_knock_51 : decode cX8_knock 51 = .ok (.aload_n 0, 1) := by decide +kernel
theorem dX8_knock_52 : decode cX8_knock 52 = .ok (.getfield 13, 3) := by decide +kernel
theorem dX8_knock_55 : decode cX8_knock 55 = .ok (.bipush 96, 2) := by decide +kernel
theorem dX8_knock_57 : decode cX8_knock 57 = .ok (.iload 6, 2) := by decide +kernel
theorem dX8_knock_59 : decode cX8_knock 59 = .ok (.iadd, 1) := by decide +kernel
theorem dX8_knock_60 : decode cX8_knock 60 = .ok (.iaload, 1) := by decide +kernel
theorem dX8_knock_61 : decode cX8_knock 61 = .ok (.ixor, 1) := by decide +kernel
theorem dX8_knock_62 : decode cX8_knock 62 = .ok (.invokestatic 474, 3) := by decide +kernel
theorem dX8_knock_65 : decode cX8_knock 65 = .ok (.istore 7, 2) := by decide +kernel
theorem dX8_knock_67 : decode cX8_knock 67 = .ok (.iload 7, 2) := by decide +kernel
theorem dX8_knock_69 : decode cX8_knock 69 = .ok (.iload 5, 2) := by decide +kernel
theorem dX8_knock_71 : decode cX8_knock 71 = .ok (.if_icmp .ge 8, 3) := by decide +kernel
theorem dX8_knock_74 : decode cX8_knock 74 = .ok (.iload 7, 2) := by decide +kernel
theorem dX8_knock_76 : decode cX8_knock 76 = .ok (.goto 5, 3) := by decide +kernel
theorem dX8_knock_79 : decode cX8_knock 79 = .ok (.iload 5, 2) := by decide +kernel
theorem dX8_knock_81 : decode cX8_knock 81 = .ok (.istore 5, 2) := by decide +kernel
theorem dX8_knock_83 : decode cX8_knock 83 = .ok (.iinc 6 1, 3) := by decide +kernel
theorem dX8_knock_86 : decode cX8_knock 86 = .ok (.goto (-48), 3) := by decide +kernel
theorem dX8_knock_89 : decode cX8_knock 89 = .ok (.iload 5, 2) := by decide +kernel
theorem dX8_knock_91 : decode cX8_knock 91 = .ok (.iload_n 2, 1) := by decide +kernel
theorem dX8_knock_92 : decode cX8_knock 92 = .ok (.if_icmp .le 8, 3) := by decide +kernel
theorem dX8_knock_95 : decode cX8_knock 95 = .ok (.iload 4, 2) := by decide +kernel
theorem dX8_knock_97 : decode cX8_knock 97 = .ok (.goto 4, 3) := by decide +kernel
theorem dX8_knock_100 : decode cX8_knock 100 = .ok (.iload_n 3, 1) := by decide +kernel
theorem dX8_knock_101 : decode cX8_knock 101 = .ok (.istore_n 3, 1) := by decide +kernel
theorem dX8_knock_102 : decode cX8_knock 102 = .ok (.iload 5, 2) := by decide +kernel
theorem dX8_knock_104 : decode cX8_knock 104 = .ok (.iload_n 2, 1) := by decide +kernel
theorem dX8_knock_105 : decode cX8_knock 105 = .ok (.if_icmp .le 8, 3) := by decide +kernel
theorem dX8_knock_108 : decode cX8_knock 108 = .ok (.iload 5, 2) := by decide +kernel
theorem dX8_knock_110 : decode cX8_knock 110 = .ok (.goto 4, 3) := by decide +kernel
theorem dX8_knock_113 : decode cX8_knock 113 = .ok (.iload_n 2, 1) := by decide +kernel
theorem dX8_knock_114 : decode cX8_knock 114 = .ok (.istore_n 2, 1) := by decide +kernel
theorem dX8_knock_115 : decode cX8_knock 115 = .ok (.iinc 4 1, 3) := by decide +kernel
theorem dX8_knock_118 : decode cX8_knock 118 = .ok (.goto (-94), 3) := by decide +kernel
theorem dX8_knock_121 : decode cX8_knock 121 = .ok (.iload_n 1, 1) := by decide +kernel
theorem dX8_knock_122 : decode cX8_knock 122 = .ok (.ifCond .ne 7, 3) := by decide +kernel
theorem dX8_knock_125 : decode cX8_knock 125 = .ok (.iload_n 3, 1) := by decide +kernel
theorem dX8_knock_126 : decode cX8_knock 126 = .ok (.goto 4, 3) := by decide +kernel
theorem dX8_knock_129 : decode cX8_knock 129 = .ok (.iload_n 2, 1) := by decide +kernel
theorem dX8_knock_130 : decode cX8_knock 130 = .ok (.ireturn, 1) := by decide +kernel
theorem dX8_wreck_0 : decode cX8_wreck 0 = .ok (.aload_n 0, 1) := by decide +kernel
theorem dX8_wreck_1 : decode cX8_wreck 1 = .ok (.iconst 0, 1) := by decide +kernel
theorem dX8_wreck_2 : decode cX8_wreck 2 = .ok (.putfield 161, 3) := by decide +kernel
theorem dX8_wreck_5 : decode cX8_wreck 5 = .ok (.iload_n 1, 1) := by decide +kernel
theorem dX8_wreck_6 : decode cX8_wreck 6 = .ok (.invokestatic 217, 3) := by decide +kernel
theorem dX8_wreck_9 : decode cX8_wreck 9 = .ok (.ifCond .eq 15, 3) := by decide +kernel
theorem dX8_wreck_12 : decode cX8_wreck 12 = .ok (.iload_n 2, 1) := by decide +kernel
theorem dX8_wreck_13 : decode cX8_wreck 13 = .ok (.i2l, 1) := by decide +kernel
theorem dX8_wreck_14 : decode cX8_wreck 14 = .ok (.lconst 0, 1) := by decide +kernel
theorem dX8_wreck_15 : decode cX8_wreck 15 = .ok (.ldc2_w 213, 3) := by decide +kernel
theorem dX8_wreck_18 : decode cX8_wreck 18 = .ok (.invokestatic 181, 3) := by decide +kernel
theorem dX8_wreck_21 : decode cX8_wreck 21 = .ok (.ifCond .ne 5, 3) := by decide +kernel
theorem dX8_wreck_24 : decode cX8_wreck 24 = .ok (.iconst (-1), 1) := by decide +kernel
theorem dX8_wreck_25 : decode cX8_wreck 25 = .ok (.ireturn, 1) := by decide +kernel
theorem dX8_wreck_26 : decode cX8_wreck 26 = .ok (.iconst 0, 1) := by decide +kernel
theorem dX8_wreck_27 : decode cX8_wreck 27 = .ok (.istore_n 3, 1) := by decide +kernel
theorem dX8_wreck_28 : decode cX8_wreck 28 = .ok (.iconst 0, 1) := by decide +kernel
theorem dX8_wreck_29 : decode cX8_wreck 29 = .ok (.istore 4, 2) := by decide +kernel
theorem dX8_wreck_31 : decode cX8_wreck 31 = .ok (.iload 4, 2) := by decide +kernel
theorem dX8_wreck_33 : decode cX8_wreck 33 = .ok (.bipush 25, 2) := by decide +kernel
theorem dX8_wreck_35 : decode cX8_wreck 35 = .ok (.if_icmp .ge 68, 3) := by decide +kernel
theorem dX8_wreck_38 : decode cX8_wreck 38 = .ok (.iload 4, 2) := by decide +kernel
theorem dX8_wreck_40 : decode cX8_wreck 40 = .ok (.istore 5, 2) := by decide +kernel
theorem dX8_wreck_42 : decode cX8_wreck 42 = .ok (.iconst 0, 1) := by decide +kernel
theorem dX8_wreck_43 : decode cX8_wreck 43 = .ok (.istore 6, 2) := by decide +kernel
theorem dX8_wreck_45 : decode cX8_wreck 45 = .ok (.iload 6, 2) := by decide +kernel
theorem dX8_wreck_47 : decode cX8_wreck 47 = .ok (.iload_n 2, 1) := by decide +kernel
theorem dX8_wreck_48 : decode cX8_wreck 48 = .ok (.if_icmp .ge 32, 3) := by decide +kernel
theorem dX8_wreck_51 : decode cX8_wreck 51 = .ok (.iload 5, 2) := by decide +kernel
theorem dX8_wreck_53 : decode cX8_wreck 53 = .ok (.iconst (-1), 1) := by decide +kernel
theorem dX8_wreck_54 : decode cX8_wreck 54 = .ok (.if_icmp .eq 26, 3) := by decide +kernel
theorem dX8_wreck_57 : decode cX8_wreck 57 = .ok (.iload 5, 2) := by decide +kernel
theorem dX8_wreck_59 : decode cX8_wreck 59 = .ok (.aload_n 0, 1) := by decide +kernel
theorem dX8_wreck_60 : decode cX8_wreck 60 = .ok (.getfield 13, 3) := by decide +kernel
theorem dX8_wreck_63 : decode cX8_wreck 63 = .ok (.bipush 104, 2) := by decide +kernel
theorem dX8_wreck_65 : decode cX8_wreck 65 = .ok (.iload 5, 2) := by decide +kernel
theorem dX8_wreck_67 : decode cX8_wreck 67 = .ok (.iadd, 1) := by decide +kernel
theorem dX8_wreck_68 : decode cX8_wreck 68 = .ok (.iaload, 1) := by decide +kernel
theorem dX8_wreck_69 : decode cX8_wreck 69 = .ok (.invokestatic 444, 3) := by decide +kernel
theorem dX8_wreck_72 : decode cX8_wreck 72 = .ok (.istore 5, 2) := by decide +kernel
theorem dX8_wreck_74 : decode cX8_wreck 74 = .ok (.iinc 6 1, 3) := by decide +kernel
theorem dX8_wreck_77 : decode cX8_wreck 77 = .ok (.goto (-32), 3) := by decide +kernel
theorem dX8_wreck_80 : decode cX8_wreck 80 = .ok (.iload_n 3, 1) := by decide +kernel
theorem dX8_wreck_81 : decode cX8_wreck 81 = .ok (.iload 5, 2) := by decide +kernel
theorem dX8_wreck_83 : decode cX8_wreck 83 = .ok (.iload_n 1, 1) := by decide +kernel
theorem dX8_wreck_84 : decode cX8_wreck 84 = .ok (.if_icmp .ne 10, 3) := by decide +kernel
theorem dX8_wreck_87 : decode cX8_wreck 87 = .ok (.iconst 1, 1) := by decide +kernel
theorem dX8_wreck_88 : decode cX8_wreck 88 = .ok (.iload 4, 2) := by decide +kernel
theorem dX8_wreck_90 : decode cX8_wreck 90 = .ok (.ishl, 1) := by decide +kernel
theorem dX8_wreck_91 : decode cX8_wreck 91 = .ok (.goto 4, 3) := by decide +kernel
theorem dX8_wreck_94 : decode cX8_wreck 94 = .ok (.iconst 0, 1) := by decide +kernel
theorem dX8_wreck_95 : decode cX8_wreck 95 = .ok (.ior, 1) := by decide +kernel
theorem dX8_wreck_96 : decode cX8_wreck 96 = .ok (.istore_n 3, 1) := by decide +kernel
theorem dX8_wreck_97 : decode cX8_wreck 97 = .ok (.iinc 4 1, 3) := by decide +kernel
theorem dX8_wreck_100 : decode cX8_wreck 100 = .ok (.goto (-69), 3) := by decide +kernel
theorem dX8_wreck_103 : decode cX8_wreck 103 = .ok (.iload_n 3, 1) := by decide +kernel
theorem dX8_wreck_104 : decode cX8_wreck 104 = .ok (.ireturn, 1) := by decide +kernel
theorem dX8_steps_0 : decode cX8_steps 0 = .ok (.iload_n 0, 1) := by decide +kernel
theorem dX8_steps_1 : decode cX8_steps 1 = .ok (.iconst 5, 1) := by decide +kernel
theorem dX8_steps_2 : decode cX8_steps 2 = .ok (.irem, 1) := by decide +kernel
theorem dX8_steps_3 : decode cX8_steps 3 = .ok (.iload_n 1, 1) := by decide +kernel
theorem dX8_steps_4 : decode cX8_steps 4 = .ok (.iconst 5, 1) := by decide +kernel
theorem dX8_steps_5 : decode cX8_steps 5 = .ok (.irem, 1) := by decide +kernel
theorem dX8_steps_6 : decode cX8_steps 6 = .ok (.isub, 1) := by decide +kernel
theorem dX8_steps_7 : decode cX8_steps 7 = .ok (.istore_n 2, 1) := by decide +kernel
theorem dX8_steps_8 : decode cX8_steps 8 = .ok (.iload_n 0, 1) := by decide +kernel
theorem dX8_steps_9 : decode cX8_steps 9 = .ok (.iconst 5, 1) := by decide +kernel
theorem dX8_steps_10 : decode cX8_steps 10 = .ok (.idiv, 1) := by decide +kernel
theorem dX8_steps_11 : decode cX8_steps 11 = .ok (.iload_n 1, 1) := by decide +kernel
theorem dX8_steps_12 : decode cX8_steps 12 = .ok (.iconst 5, 1) := by decide +kernel
theorem dX8_steps_13 : decode cX8_steps 13 = .ok (.idiv, 1) := by decide +kernel
theorem dX8_steps_14 : decode cX8_steps 14 = .ok (.isub, 1) := by decide +kernel
theorem dX8_steps_15 : decode cX8_steps 15 = .ok (.istore_n 3, 1) := by decide +kernel
theorem dX8_steps_16 : decode cX8_steps 16 = .ok (.iload_n 2, 1) := by decide +kernel
theorem dX8_steps_17 : decode cX8_steps 17 = .ok (.ifCond .ge 8, 3) := by decide +kernel
theorem dX8_steps_20 : decode cX8_steps 20 = .ok (.iload_n 2, 1) := by decide +kernel
theorem dX8_steps_21 : decode cX8_steps 21 = .ok (.ineg, 1) := by decide +kernel
theorem dX8_steps_22 : decode cX8_steps 22 = .ok (.goto 4, 3) := by decide +kernel
theorem dX8_steps_25 : decode cX8_steps 25 = .ok (.iload_n 2, 1) := by decide +kernel
theorem dX8_steps_26 : decode cX8_steps 26 = .ok (.iload_n 3, 1) := by decide +kernel
theorem dX8_steps_27 : decode cX8_steps 27 = .ok (.ifCond .ge 8, 3) := by decide +kernel
theorem dX8_steps_30 : decode cX8_steps 30 = .ok (.iload_n 3, 1) := by decide +kernel
theorem dX8_steps_31 : decode cX8_steps 31 = .ok (.ineg, 1) := by decide +kernel
theorem dX8_steps_32 : decode cX8_steps 32 = .ok (.goto 4, 3) := by decide +kernel
theorem dX8_steps_35 : decode cX8_steps 35 = .ok (.iload_n 3, 1) := by decide +kernel
theorem dX8_steps_36 : decode cX8_steps 36 = .ok (.iadd, 1) := by decide +kernel
theorem dX8_steps_37 : decode cX8_steps 37 = .ok (.ireturn, 1) := by decide +kernel
theorem dX8_isFresh_0 : decode cX8_isFresh 0 = .ok (.iconst 1, 1) := by decide +kernel
theorem dX8_isFresh_1 : decode cX8_isFresh 1 = .ok (.istore_n 2, 1) := by decide +kernel
theorem dX8_isFresh_2 : decode cX8_isFresh 2 = .ok (.iconst 0, 1) := by decide +kernel
theorem dX8_isFresh_3 : decode cX8_isFresh 3 = .ok (.istore_n 3, 1) := by decide +kernel
theorem dX8_isFresh_4 : decode cX8_isFresh 4 = .ok (.iload_n 3, 1) := by decide +kernel
theorem dX8_isFresh_5 : decode cX8_isFresh 5 = .ok (.iload_n 1, 1) := by decide +kernel
theorem dX8_isFresh_6 : decode cX8_isFresh 6 = .ok (.if_icmp .ge 34, 3) := by decide +kernel
theorem dX8_isFresh_9 : decode cX8_isFresh 9 = .ok (.iload_n 2, 1) := by decide +kernel
theorem dX8_isFresh_10 : decode cX8_isFresh 10 = .ok (.ifCond .eq 22, 3) := by decide +kernel
theorem dX8_isFresh_13 : decode cX8_isFresh 13 = .ok (.aload_n 0, 1) := by decide +kernel
theorem dX8_isFresh_14 : decode cX8_isFresh 14 = .ok (.getfield 123, 3) := by decide +kernel
theorem dX8_isFresh_17 : decode cX8_isFresh 17 = .ok (.iload_n 3, 1) := by decide +kernel
theorem dX8_isFresh_18 : decode cX8_isFresh 18 = .ok (.iaload, 1) := by decide +kernel
theorem dX8_isFresh_19 : decode cX8_isFresh 19 = .ok (.aload_n 0, 1) := by decide +kernel
theorem dX8_isFresh_20 : decode cX8_isFresh 20 = .ok (.getfield 123, 3) := by decide +kernel
theorem dX8_isFresh_23 : decode cX8_isFresh 23 = .ok (.iload_n 1, 1) := by decide +kernel
theorem dX8_isFresh_24 : decode cX8_isFresh 24 = .ok (.iaload, 1) := by decide +kernel
theorem dX8_isFresh_25 : decode cX8_isFresh 25 = .ok (.if_icmp .eq 7, 3) := by decide +kernel
theorem dX8_isFresh_28 : decode cX8_isFresh 28 = .ok (.iconst 1, 1) := by decide +kernel
theorem dX8_isFresh_29 : decode cX8_isFresh 29 = .ok (.goto 4, 3) := by decide +kernel
theorem dX8_isFresh_32 : decode cX8_isFresh 32 = .ok (.iconst 0, 1) := by decide +kernel
theorem dX8_isFresh_33 : decode cX8_isFresh 33 = .ok (.istore_n 2, 1) := by decide +kernel
theorem dX8_isFresh_34 : decode cX8_isFresh 34 = .ok (.iinc 3 1, 3) := by decide +kernel
theorem dX8_isFresh_37 : decode cX8_isFresh 37 = .ok (.goto (-33), 3) := by decide +kernel
theorem dX8_isFresh_40 : decode cX8_isFresh 40 = .ok (.iload_n 2, 1) := by decide +kernel
theorem dX8_isFresh_41 : decode cX8_isFresh 41 = .ok (.ireturn, 1) := by decide +kernel
theorem dX8_stepsOf_0 : decode cX8_stepsOf 0 = .ok (.iconst 0, 1) := by decide +kernel
theorem dX8_stepsOf_1 : decode cX8_stepsOf 1 = .ok (.istore_n 2, 1) := by decide +kernel
theorem dX8_stepsOf_2 : decode cX8_stepsOf 2 = .ok (.iconst 0, 1) := by decide +kernel
theorem dX8_stepsOf_3 : decode cX8_stepsOf 3 = .ok (.istore_n 3, 1) := by decide +kernel
theorem dX8_stepsOf_4 : decode cX8_stepsOf 4 = .ok (.iconst 0, 1) := by decide +kernel
theorem dX8_stepsOf_5 : decode cX8_stepsOf 5 = .ok (.istore 4, 2) := by decide +kernel
theorem dX8_stepsOf_7 : decode cX8_stepsOf 7 = .ok (.iload 4, 2) := by decide +kernel
theorem dX8_stepsOf_9 : decode cX8_stepsOf 9 = .ok (.iload_n 1, 1) := by decide +kernel
theorem dX8_stepsOf_10 : decode cX8_stepsOf 10 = .ok (.if_icmp .ge 41, 3) := by decide +kernel
theorem dX8_stepsOf_13 : decode cX8_stepsOf 13 = .ok (.iload_n 3, 1) := by decide +kernel
theorem dX8_stepsOf_14 : decode cX8_stepsOf 14 = .ok (.iload_n 2, 1) := by decide +kernel
theorem dX8_stepsOf_15 : decode cX8_stepsOf 15 = .ok (.aload_n 0, 1) := by decide +kernel
theorem dX8_stepsOf_16 : decode cX8_stepsOf 16 = .ok (.getfield 120, 3) := by decide +kernel
theorem dX8_stepsOf_19 : decode cX8_stepsOf 19 = .ok (.aload_n 0, 1) := by decide +kernel
theorem dX8_stepsOf_20 : decode cX8_stepsOf 20 = .ok (.getfield 123, 3) := by decide +kernel
theorem dX8_stepsOf_23 : decode cX8_stepsOf 23 = .ok (.iload 4, 2) := by decide +kernel
theorem dX8_stepsOf_25 : decode cX8_stepsOf 25 = .ok (.iaload, 1) := by decide +kernel
theorem dX8_stepsOf_26 : decode cX8_stepsOf 26 = .ok (.iaload, 1) := by decide +kernel
theorem dX8_stepsOf_27 : decode cX8_stepsOf 27 = .ok (.invokestatic 493, 3) := by decide +kernel
theorem dX8_stepsOf_30 : decode cX8_stepsOf 30 = .ok (.iadd, 1) := by decide +kernel
theorem dX8_stepsOf_31 : decode cX8_stepsOf 31 = .ok (.istore_n 3, 1) := by decide +kernel
theorem dX8_stepsOf_32 : decode cX8_stepsOf 32 = .ok (.aload_n 0, 1) := by decide +kernel
theorem dX8_stepsOf_33 : decode cX8_stepsOf 33 = .ok (.getfield 120, 3) := by decide +kernel
theorem dX8_stepsOf_36 : decode cX8_stepsOf 36 = .ok (.aload_n 0, 1) := by decide +kernel
theorem dX8_stepsOf_37 : decode cX8_stepsOf 37 = .ok (.getfield 123, 3) := by decide +kernel
theorem dX8_stepsOf_40 : decode cX8_stepsOf 40 = .ok (.iload 4, 2) := by decide +kernel
theorem dX8_stepsOf_42 : decode cX8_stepsOf 42 = .ok (.iaload, 1) := by decide +kernel
theorem dX8_stepsOf_43 : decode cX8_stepsOf 43 = .ok (.iaload, 1) := by decide +kernel
theorem dX8_stepsOf_44 : decode cX8_stepsOf 44 = .ok (.istore_n 2, 1) := by decide +kernel
theorem dX8_stepsOf_45 : decode cX8_stepsOf 45 = .ok (.iinc 4 1, 3) := by decide +kernel
theorem dX8_stepsOf_48 : decode cX8_stepsOf 48 = .ok (.goto (-41), 3) := by decide +kernel
theorem dX8_stepsOf_51 : decode cX8_stepsOf 51 = .ok (.iload_n 3, 1) := by decide +kernel
theorem dX8_stepsOf_52 : decode cX8_stepsOf 52 = .ok (.ireturn, 1) := by decide +kernel
theorem dX8_findSearch_0 : decode cX8_findSearch 0 = .ok (.iload_n 1, 1) := by decide +kernel
theorem dX8_findSearch_1 : decode cX8_findSearch 1 = .ok (.ifCond .ne 7, 3) := by decide +kernel
theorem dX8_findSearch_4 : decode cX8_findSearch 4 = .ok (.iconst 0, 1) := by decide +kernel
theorem dX8_findSearch_5 : decode cX8_findSearch 5 = .ok (.goto 6, 3) := by decide +kernel
theorem dX8_findSearch_8 : decode cX8_findSearch 8 = .ok (.ldc_w 470, 3) := by decide +kernel
theorem dX8_findSearch_11 : decode cX8_findSearch 11 = .ok (.istore_n 2, 1) := by decide +kernel
theorem dX8_findSearch_12 : decode cX8_findSearch 12 = .ok (.iload_n 1, 1) := by decide +kernel
theorem dX8_findSearch_13 : decode cX8_findSearch 13 = .ok (.ifCond .ne 7, 3) := by decide +kernel
theorem dX8_findSearch_16 : decode cX8_findSearch 16 = .ok (.iconst (-1), 1) := by decide +kernel
theorem dX8_findSearch_17 : decode cX8_findSearch 17 = .ok (.goto 4, 3) := by decide +kernel
theorem dX8_findSearch_20 : decode cX8_findSearch 20 = .ok (.iconst 0, 1) := by decide +kernel
theorem dX8_findSearch_21 : decode cX8_findSearch 21 = .ok (.istore_n 3, 1) := by decide +kernel
theorem dX8_findSearch_22 : decode cX8_findSearch 22 = .ok (.aload_n 0, 1) := by decide +kernel
theorem dX8_findSearch_23 : decode cX8_findSearch 23 = .ok (.getfield 123, 3) := by decide +kernel
theorem dX8_findSearch_26 : decode cX8_findSearch 26 = .ok (.iconst 0, 1) := by decide +kernel
theorem dX8_findSearch_27 : decode cX8_findSearch 27 = .ok (.iconst (-1), 1) := by decide +kernel
theorem dX8_findSearch_28 : decode cX8_findSearch 28 = .ok (.iastore, 1) := by decide +kernel
theorem dX8_findSearch_29 : decode cX8_findSearch 29 = .ok (.iload_n 3, 1) := by decide +kernel
theorem dX8_findSearch_30 : decode cX8_findSearch 30 = .ok (.ifCond .lt 120, 3) := by decide +kernel
theorem dX8_findSearch_33 : decode cX8_findSearch 33 = .ok (.aload_n 0, 1) := by decide +kernel
theorem dX8_findSearch_34 : decode cX8_findSearch 34 = .ok (.getfield 123, 3) := by decide +kernel
theorem dX8_findSearch_37 : decode cX8_findSearch 37 = .ok (.iload_n 3, 1) := by decide +kernel
theorem dX8_findSearch_38 : decode cX8_findSearch 38 = .ok (.dup2, 1) := by decide +kernel
theorem dX8_findSearch_39 : decode cX8_findSearch 39 = .ok (.iaload, 1) := by decide +kernel
theorem dX8_findSearch_40 : decode cX8_findSearch 40 = .ok (.iconst 1, 1) := by decide +kernel
theorem dX8_findSearch_41 : decode cX8_findSearch 41 = .ok (.iadd, 1) := by decide +kernel
theorem dX8_findSearch_42 : decode cX8_findSearch 42 = .ok (.iastore, 1) := by decide +kernel
theorem dX8_findSearch_43 : decode cX8_findSearch 43 = .ok (.aload_n 0, 1) := by decide +kernel
theorem dX8_findSearch_44 : decode cX8_findSearch 44 = .ok (.getfield 123, 3) := by decide +kernel
theorem dX8_findSearch_47 : decode cX8_findSearch 47 = .ok (.iload_n 3, 1) := by decide +kernel
theorem dX8_findSearch_48 : decode cX8_findSearch 48 = .ok (.iaload, 1) := by decide +kernel
theorem dX8_findSearch_49 : decode cX8_findSearch 49 = .ok (.iload_n 1, 1) := by decide +kernel
theorem dX8_findSearch_50 : decode cX8_findSearch 50 = .ok (.if_icmp .ne 9, 3) := by decide +kernel
theorem dX8_findSearch_53 : decode cX8_findSearch 53 = .ok (.iinc 3 (-1), 3) := by decide +kernel
theorem dX8_findSearch_56 : decode cX8_findSearch 56 = .ok (.goto (-27), 3) := by decide +kernel
theorem dX8_findSearch_59 : decode cX8_findSearch 59 = .ok (.aload_n 0, 1) := by decide +kernel
theorem dX8_findSearch_60 : decode cX8_findSearch 60 = .ok (.iload_n 3, 1) := by decide +kernel
theorem dX8_findSearch_61 : decode cX8_findSearch 61 = .ok (.invokevirtual 496, 3) := by decide +kernel
theorem dX8_findSearch_64 : decode cX8_findSearch 64 = .ok (.ifCond .eq (-35), 3) := by decide +kernel
theorem dX8_findSearch_67 : decode cX8_findSearch 67 = .ok (.iload_n 3, 1) := by decide +kernel
theorem dX8_findSearch_68 : decode cX8_findSearch 68 = .ok (.iload_n 1, 1) := by decide +kernel
theorem dX8_findSearch_69 : decode cX8_findSearch 69 = .ok (.iconst 1, 1) := by decide +kernel
theorem dX8_findSearch_70 : decode cX8_findSearch 70 = .ok (.isub, 1) := by decide +kernel
theorem dX8_findSearch_71 : decode cX8_findSearch 71 = .ok (.if_icmp .ne 66, 3) := by decide +kernel
theorem dX8_findSearch_74 : decode cX8_findSearch 74 = .ok (.aload_n 0, 1) := by decide +kernel
theorem dX8_findSearch_75 : decode cX8_findSearch 75 = .ok (.iload_n 1, 1) := by decide +kernel
theorem dX8_findSearch_76 : decode cX8_findSearch 76 = .ok (.invokevirtual 499, 3) := by decide +kernel
theorem dX8_findSearch_79 : decode cX8_findSearch 79 = .ok (.istore 4, 2) := by decide +kernel
theorem dX8_findSearch_81 : decode cX8_findSearch 81 = .ok (.iconst 0, 1) := by decide +kernel
theorem dX8_findSearch_82 : decode cX8_findSearch 82 = .ok (.istore 5, 2) := by decide +kernel
theorem dX8_findSearch_84 : decode cX8_findSearch 84 = .ok (.iload 5, 2) := by decide +kernel
theorem dX8_findSearch_86 : decode cX8_findSearch 86 = .ok (.iload_n 1, 1) := by decide +kernel
theorem dX8_findSearch_87 : decode cX8_findSearch 87 = .ok (.if_icmp .ge 34, 3) := by decide +kernel
theorem dX8_findSearch_90 : decode cX8_findSearch 90 = .ok (.iload 4, 2) := by decide +kernel
theorem dX8_findSearch_92 : decode cX8_findSearch 92 = .ok (.iload_n 2, 1) := by decide +kernel
theorem dX8_findSearch_93 : decode cX8_findSearch 93 = .ok (.if_icmp .ge 28, 3) := by decide +kernel
theorem dX8_findSearch_96 : decode cX8_findSearch 96 = .ok (.aload_n 0, 1) := by decide +kernel
theorem dX8_findSearch_97 : decode cX8_findSearch 97 = .ok (.getfield 126, 3) := by decide +kernel
theorem dX8_findSearch_100 : decode cX8_findSearch 100 = .ok (.iload 5, 2) := by decide +kernel
theorem dX8_findSearch_102 : decode cX8_findSearch 102 = .ok (.aload_n 0, 1) := by decide +kernel
theorem dX8_findSearch_103 : decode cX8_findSearch 103 = .ok (.getfield 120, 3) := by decide +kernel
theorem dX8_findSearch_106 : decode cX8_findSearch 106 = .ok (.aload_n 0, 1) := by decide +kernel
theorem dX8_findSearch_107 : decode cX8_findSearch 107 = .ok (.getfield 123, 3) := by decide +kernel
theorem dX8_findSearch_110 : decode cX8_findSearch 110 = .ok (.iload 5, 2) := by decide +kernel
theorem dX8_findSearch_112 : decode cX8_findSearch 112 = .ok (.iaload, 1) := by decide +kernel
theorem dX8_findSearch_113 : decode cX8_findSearch 113 = .ok (.iaload, 1) := by decide +kernel
theorem dX8_findSearch_114 : decode cX8_findSearch 114 = .ok (.iastore, 1) := by decide +kernel
theorem dX8_findSearch_115 : decode cX8_findSearch 115 = .ok (.iinc 5 1, 3) := by decide +kernel
theorem dX8_findSearch_118 : decode cX8_findSearch 118 = .ok (.goto (-34), 3) := by decide +kernel
theorem dX8_findSearch_121 : decode cX8_findSearch 121 = .ok (.iload 4, 2) := by decide +kernel
theorem dX8_findSearch_123 : decode cX8_findSearch 123 = .ok (.iload_n 2, 1) := by decide +kernel
theorem dX8_findSearch_124 : decode cX8_findSearch 124 = .ok (.if_icmp .ge 8, 3) := by decide +kernel
theorem dX8_findSearch_127 : decode cX8_findSearch 127 = .ok (.iload 4, 2) := by decide +kernel
theorem dX8_findSearch_129 : decode cX8_findSearch 129 = .ok (.goto 4, 3) := by decide +kernel
theorem dX8_findSearch_132 : decode cX8_findSearch 132 = .ok (.iload_n 2, 1) := by decide +kernel
theorem dX8_findSearch_133 : decode cX8_findSearch 133 = .ok (.istore_n 2, 1) := by decide +kernel
theorem dX8_findSearch_134 : decode cX8_findSearch 134 = .ok (.goto (-105), 3) := by decide +kernel
theorem dX8_findSearch_137 : decode cX8_findSearch 137 = .ok (.iinc 3 1, 3) := by decide +kernel
theorem dX8_findSearch_140 : decode cX8_findSearch 140 = .ok (.aload_n 0, 1) := by decide +kernel
theorem dX8_findSearch_141 : decode cX8_findSearch 141 = .ok (.getfield 123, 3) := by decide +kernel
theorem dX8_findSearch_144 : decode cX8_findSearch 144 = .ok (.iload_n 3, 1) := by decide +kernel
theorem dX8_findSearch_145 : decode cX8_findSearch 145 = .ok (.iconst (-1), 1) := by decide +kernel
theorem dX8_findSearch_146 : decode cX8_findSearch 146 = .ok (.iastore, 1) := by decide +kernel
theorem dX8_findSearch_147 : decode cX8_findSearch 147 = .ok (.goto (-118), 3) := by decide +kernel
theorem dX8_findSearch_150 : decode cX8_findSearch 150 = .ok (.iload_n 2, 1) := by decide +kernel
theorem dX8_findSearch_151 : decode cX8_findSearch 151 = .ok (.ireturn, 1) := by decide +kernel
theorem dX8_search_0 : decode cX8_search 0 = .ok (.aload_n 0, 1) := by decide +kernel
theorem dX8_search_1 : decode cX8_search 1 = .ok (.iconst 0, 1) := by decide +kernel
theorem dX8_search_2 : decode cX8_search 2 = .ok (.putfield 161, 3) := by decide +kernel
theorem dX8_search_5 : decode cX8_search 5 = .ok (.iload_n 1, 1) := by decide +kernel
theorem dX8_search_6 : decode cX8_search 6 = .ok (.i2l, 1) := by decide +kernel
theorem dX8_search_7 : decode cX8_search 7 = .ok (.lconst 0, 1) := by decide +kernel
theorem dX8_search_8 : decode cX8_search 8 = .ok (.ldc2_w 502, 3) := by decide +kernel
theorem dX8_search_11 : decode cX8_search 11 = .ok (.invokestatic 181, 3) := by decide +kernel
theorem dX8_search_14 : decode cX8_search 14 = .ok (.ifCond .eq 30, 3) := by decide +kernel
theorem dX8_search_17 : decode cX8_search 17 = .ok (.iload_n 1, 1) := by decide +kernel
theorem dX8_search_18 : decode cX8_search 18 = .ok (.invokestatic 474, 3) := by decide +kernel
theorem dX8_search_21 : decode cX8_search 21 = .ok (.bipush 7, 2) := by decide +kernel
theorem dX8_search_23 : decode cX8_search 23 = .ok (.if_icmp .gt 21, 3) := by decide +kernel
theorem dX8_search_26 : decode cX8_search 26 = .ok (.iload_n 2, 1) := by decide +kernel
theorem dX8_search_27 : decode cX8_search 27 = .ok (.i2l, 1) := by decide +kernel
theorem dX8_search_28 : decode cX8_search 28 = .ok (.ldc2_w 277, 3) := by decide +kernel
theorem dX8_search_31 : decode cX8_search 31 = .ok (.iload_n 1, 1) := by decide +kernel
theorem dX8_search_32 : decode cX8_search 32 = .ok (.invokestatic 474, 3) := by decide +kernel
theorem dX8_search_35 : decode cX8_search 35 = .ok (.i2l, 1) := by decide +kernel
theorem dX8_search_36 : decode cX8_search 36 = .ok (.lconst 1, 1) := by decide +kernel
theorem dX8_search_37 : decode cX8_search 37 = .ok (.lsub, 1) := by decide +kernel
theorem dX8_search_38 : decode cX8_search 38 = .ok (.invokestatic 181, 3) := by decide +kernel
theorem dX8_search_41 : decode cX8_search 41 = .ok (.ifCond .ne 5, 3) := by decide +kernel
theorem dX8_search_44 : decode cX8_search 44 = .ok (.iconst (-1), 1) := by decide +kernel
theorem dX8_search_45 : decode cX8_search 45 = .ok (.ireturn, 1) := by decide +kernel
theorem dX8_search_46 : decode cX8_search 46 = .ok (.iconst 0, 1) := by decide +kernel
theorem dX8_search_47 : decode cX8_search 47 = .ok (.istore_n 3, 1) := by decide +kernel
theorem dX8_search_48 : decode cX8_search 48 = .ok (.iconst 0, 1) := by decide +kernel
theorem dX8_search_49 : decode cX8_search 49 = .ok (.istore 4, 2) := by decide +kernel
theorem dX8_search_51 : decode cX8_search 51 = .ok (.iload 4, 2) := by decide +kernel
theorem dX8_search_53 : decode cX8_search 53 = .ok (.bipush 25, 2) := by decide +kernel
theorem dX8_search_55 : decode cX8_search 55 = .ok (.if_icmp .ge 29, 3) := by decide +kernel
theorem dX8_search_58 : decode cX8_search 58 = .ok (.iload_n 1, 1) := by decide +kernel
theorem dX8_search_59 : decode cX8_search 59 = .ok (.iload 4, 2) := by decide +kernel
theorem dX8_search_61 : decode cX8_search 61 = .ok (.invokestatic 471, 3) := by decide +kernel
theorem dX8_search_64 : decode cX8_search 64 = .ok (.ifCond .eq 14, 3) := by decide +kernel
theorem dX8_search_67 : decode cX8_search 67 = .ok (.aload_n 0, 1) := by decide +kernel
theorem dX8_search_68 : decode cX8_search 68 = .ok (.getfield 120, 3) := by decide +kernel
theorem dX8_search_71 : decode cX8_search 71 = .ok (.iload_n 3, 1) := by decide +kernel
theorem dX8_search_72 : decode cX8_search 72 = .ok (.iload 4, 2) := by decide +kernel
theorem dX8_search_74 : decode cX8_search 74 = .ok (.iastore, 1) := by decide +kernel
theorem dX8_search_75 : decode cX8_search 75 = .ok (.iinc 3 1, 3) := by decide +kernel
theorem dX8_search_78 : decode cX8_search 78 = .ok (.iinc 4 1, 3) := by decide +kernel
theorem dX8_search_81 : decode cX8_search 81 = .ok (.goto (-30), 3) := by decide +kernel
theorem dX8_search_84 : decode cX8_search 84 = .ok (.aload_n 0, 1) := by decide +kernel
theorem dX8_search_85 : decode cX8_search 85 = .ok (.iload_n 3, 1) := by decide +kernel
theorem dX8_search_86 : decode cX8_search 86 = .ok (.invokevirtual 504, 3) := by decide +kernel
theorem dX8_search_89 : decode cX8_search 89 = .ok (.istore 4, 2) := by decide +kernel
theorem dX8_search_91 : decode cX8_search 91 = .ok (.iload_n 2, 1) := by decide +kernel
theorem dX8_search_92 : decode cX8_search 92 = .ok (.iconst (-1), 1) := by decide +kernel
theorem dX8_search_93 : decode cX8_search 93 = .ok (.if_icmp .ne 8, 3) := by decide +kernel
theorem dX8_search_96 : decode cX8_search 96 = .ok (.iload 4, 2) := by decide +kernel
theorem dX8_search_98 : decode cX8_search 98 = .ok (.goto 9, 3) := by decide +kernel
theorem dX8_search_101 : decode cX8_search 101 = .ok (.aload_n 0, 1) := by decide +kernel
theorem dX8_search_102 : decode cX8_search 102 = .ok (.getfield 126, 3) := by decide +kernel
theorem dX8_search_105 : decode cX8_search 105 = .ok (.iload_n 2, 1) := by decide +kernel
theorem dX8_search_106 : decode cX8_search 106 = .ok (.iaload, 1) := by decide +kernel
theorem dX8_search_107 : decode cX8_search 107 = .ok (.ireturn, 1) := by decide +kernel
theorem dX8_afloat_0 : decode cX8_afloat 0 = .ok (.aload_n 0, 1) := by decide +kernel
theorem dX8_afloat_1 : decode cX8_afloat 1 = .ok (.iconst 0, 1) := by decide +kernel
theorem dX8_afloat_2 : decode cX8_afloat 2 = .ok (.putfield 161, 3) := by decide +kernel
theorem dX8_afloat_5 : decode cX8_afloat 5 = .ok (.aload_n 0, 1) := by decide +kernel
theorem dX8_afloat_6 : decode cX8_afloat 6 = .ok (.iload_n 1, 1) := by decide +kernel
theorem dX8_afloat_7 : decode cX8_afloat 7 = .ok (.invokevirtual 203, 3) := by decide +kernel
theorem dX8_afloat_10 : decode cX8_afloat 10 = .ok (.ifCond .eq 23, 3) := by decide +kernel
theorem dX8_afloat_13 : decode cX8_afloat 13 = .ok (.aload_n 0, 1) := by decide +kernel
theorem dX8_afloat_14 : decode cX8_afloat 14 = .ok (.iload_n 1, 1) := by decide +kernel
theorem dX8_afloat_15 : decode cX8_afloat 15 = .ok (.invokevirtual 441, 3) := by decide +kernel
theorem dX8_afloat_18 : decode cX8_afloat 18 = .ok (.ifCond .eq 15, 3) := by decide +kernel
theorem dX8_afloat_21 : decode cX8_afloat 21 = .ok (.iload_n 2, 1) := by decide +kernel
theorem dX8_afloat_22 : decode cX8_afloat 22 = .ok (.i2l, 1) := by decide +kernel
theorem dX8_afloat_23 : decode cX8_afloat 23 = .ok (.lconst 0, 1) := by decide +kernel
theorem dX8_afloat_24 : decode cX8_afloat 24 = .ok (.ldc2_w 507, 3) := by decide +kernel
theorem dX8_afloat_27 : decode cX8_afloat 27 = .ok (.invokestatic 181, 3) := by decide +kernel
theorem dX8_afloat_30 : decode cX8_afloat 30 = .ok (.ifCond .ne 7, 3) := by decide +kernel
theorem dX8_afloat_33 : decode cX8_afloat 33 = .ok (.ldc2_w 277, 3) := by decide +kernel
theorem dX8_afloat_36 : decode cX8_afloat 36 = .ok (.lreturn, 1) := by decide +kernel
theorem dX8_afloat_37 : decode cX8_afloat 37 = .ok (.ldc2_w 509, 3) := by decide +kernel
theorem dX8_afloat_40 : decode cX8_afloat 40 = .ok (.lstore_n 3, 1) := by decide +kernel
theorem dX8_afloat_41 : decode cX8_afloat 41 = .ok (.aload_n 0, 1) := by decide +kernel
theorem dX8_afloat_42 : decode cX8_afloat 42 = .ok (.getfield 13, 3) := by decide +kernel
theorem dX8_afloat_45 : decode cX8_afloat 45 = .ok (.bipush 15, 2) := by decide +kernel
theorem dX8_afloat_47 : decode cX8_afloat 47 = .ok (.iload_n 1, 1) := by decide +kernel
theorem dX8_afloat_48 : decode cX8_afloat 48 = .ok (.iadd, 1) := by decide +kernel
theorem dX8_afloat_49 : decode cX8_afloat 49 = .ok (.iaload, 1) := by decide +kernel
theorem dX8_afloat_50 : decode cX8_afloat 50 = .ok (.istore 5, 2) := by decide +kernel
theorem dX8_afloat_52 : decode cX8_afloat 52 = .ok (.iconst 0, 1) := by decide +kernel
theorem dX8_afloat_53 : decode cX8_afloat 53 = .ok (.istore 6, 2) := by decide +kernel
theorem dX8_afloat_55 : decode cX8_afloat 55 = .ok (.iload 6, 2) := by decide +kernel
theorem dX8_afloat_57 : decode cX8_afloat 57 = .ok (.iload_n 2, 1) := by decide +kernel
theorem dX8_afloat_58 : decode cX8_afloat 58 = .ok (.if_icmp .ge 50, 3) := by decide +kernel
theorem dX8_afloat_61 : decode cX8_afloat 61 = .ok (.iload 5, 2) := by decide +kernel
theorem dX8_afloat_63 : decode cX8_afloat 63 = .ok (.iconst (-1), 1) := by decide +kernel
theorem dX8_afloat_64 : decode cX8_afloat 64 = .ok (.if_icmp .eq 44, 3) := by decide +kernel
theorem dX8_afloat_67 : decode cX8_afloat 67 = .ok (.lload_n 3, 1) := by decide +kernel
theorem dX8_afloat_68 : decode cX8_afloat 68 = .ok (.bipush 10, 2) := by decide +kernel
theorem dX8_afloat_70 : decode cX8_afloat 70 = .ok (.aload_n 0, 1) := by decide +kernel
theorem dX8_afloat_71 : decode cX8_afloat 71 = .ok (.iload_n 1, 1) := by decide +kernel
theorem dX8_afloat_72 : decode cX8_afloat 72 = .ok (.iload 5, 2) := by decide +kernel
theorem dX8_afloat_74 : decode cX8_afloat 74 = .ok (.invokevirtual 233, 3) := by decide +kernel
theorem dX8_afloat_77 : decode cX8_afloat 77 = .ok (.isub, 1) := by decide +kernel
theorem dX8_afloat_78 : decode cX8_afloat 78 = .ok (.i2l, 1) := by decide +kernel
theorem dX8_afloat_79 : decode cX8_afloat 79 = .ok (.lmul, 1) := by decide +kernel
theorem dX8_afloat_80 : decode cX8_afloat 80 = .ok (.ldc2_w 281, 3) := by decide +kernel
theorem dX8_afloat_83 : decode cX8_afloat 83 = .ok (.ldiv, 1) := by decide +kernel
theorem dX8_afloat_84 : decode cX8_afloat 84 = .ok (.lstore_n 3, 1) := by decide +kernel
theorem dX8_afloat_85 : decode cX8_afloat 85 = .ok (.iload 5, 2) := by decide +kernel
theorem dX8_afloat_87 : decode cX8_afloat 87 = .ok (.aload_n 0, 1) := by decide +kernel
theorem dX8_afloat_88 : decode cX8_afloat 88 = .ok (.getfield 13, 3) := by decide +kernel
theorem dX8_afloat_91 : decode cX8_afloat 91 = .ok (.bipush 104, 2) := by decide +kernel
theorem dX8_afloat_93 : decode cX8_afloat 93 = .ok (.iload 5, 2) := by decide +kernel
theorem dX8_afloat_95 : decode cX8_afloat 95 = .ok (.iadd, 1) := by decide +kernel
theorem dX8_afloat_96 : decode cX8_afloat 96 = .ok (.iaload, 1) := by decide +kernel
theorem dX8_afloat_97 : decode cX8_afloat 97 = .ok (.invokestatic 444, 3) := by decide +kernel
theorem dX8_afloat_100 : decode cX8_afloat 100 = .ok (.istore 5, 2) := by decide +kernel
theorem dX8_afloat_102 : decode cX8_afloat 102 = .ok (.iinc 6 1, 3) := by decide +kernel
theorem dX8_afloat_105 : decode cX8_afloat 105 = .ok (.goto (-50), 3) := by decide +kernel
theorem dX8_afloat_108 : decode cX8_afloat 108 = .ok (.iload 5, 2) := by decide +kernel
theorem dX8_afloat_110 : decode cX8_afloat 110 = .ok (.iconst (-1), 1) := by decide +kernel
theorem dX8_afloat_111 : decode cX8_afloat 111 = .ok (.if_icmp .ne 7, 3) := by decide +kernel
theorem dX8_afloat_114 : decode cX8_afloat 114 = .ok (.lconst 0, 1) := by decide +kernel
theorem dX8_afloat_115 : decode cX8_afloat 115 = .ok (.goto 4, 3) := by decide +kernel
theorem dX8_afloat_118 : decode cX8_afloat 118 = .ok (.lload_n 3, 1) := by decide +kernel
theorem dX8_afloat_119 : decode cX8_afloat 119 = .ok (.lreturn, 1) := by decide +kernel
theorem dX8_guards_0 : decode cX8_guards 0 = .ok (.aload_n 0, 1) := by decide +kernel
theorem dX8_guards_1 : decode cX8_guards 1 = .ok (.iconst 0, 1) := by decide +kernel
theorem dX8_guards_2 : decode cX8_guards 2 = .ok (.putfield 161, 3) := by decide +kernel
theorem dX8_guards_5 : decode cX8_guards 5 = .ok (.iload_n 1, 1) := by decide +kernel
theorem dX8_guards_6 : decode cX8_guards 6 = .ok (.i2l, 1) := by decide +kernel
theorem dX8_guards_7 : decode cX8_guards 7 = .ok (.lconst 0, 1) := by decide +kernel
theorem dX8_guards_8 : decode cX8_guards 8 = .ok (.lconst 1, 1) := by decide +kernel
theorem dX8_guards_9 : decode cX8_guards 9 = .ok (.invokestatic 181, 3) := by decide +kernel
theorem dX8_guards_12 : decode cX8_guards 12 = .ok (.ifCond .ne 5, 3) := by decide +kernel
theorem dX8_guards_15 : decode cX8_guards 15 = .ok (.iconst (-1), 1) := by decide +kernel
theorem dX8_guards_16 : decode cX8_guards 16 = .ok (.ireturn, 1) := by decide +kernel
theorem dX8_guards_17 : decode cX8_guards 17 = .ok (.iconst 0, 1) := by decide +kernel
theorem dX8_guards_18 : decode cX8_guards 18 = .ok (.istore_n 2, 1) := by decide +kernel
theorem dX8_guards_19 : decode cX8_guards 19 = .ok (.iconst 0, 1) := by decide +kernel
theorem dX8_guards_20 : decode cX8_guards 20 = .ok (.istore_n 3, 1) := by decide +kernel
theorem dX8_guards_21 : decode cX8_guards 21 = .ok (.iload_n 3, 1) := by decide +kernel
theorem dX8_guards_22 : decode cX8_guards 22 = .ok (.aload_n 0, 1) := by decide +kernel
theorem dX8_guards_23 : decode cX8_guards 23 = .ok (.getfield 13, 3) := by decide +kernel
theorem dX8_guards_26 : decode cX8_guards 26 = .ok (.iconst 0, 1) := by decide +kernel
theorem dX8_guards_27 : decode cX8_guards 27 = .ok (.iaload, 1) := by decide +kernel
theorem dX8_guards_28 : decode cX8_guards 28 = .ok (.if_icmp .ge 28, 3) := by decide +kernel
theorem dX8_guards_31 : decode cX8_guards 31 = .ok (.iload_n 2, 1) := by decide +kernel
theorem dX8_guards_32 : decode cX8_guards 32 = .ok (.aload_n 0, 1) := by decide +kernel
theorem dX8_guards_33 : decode cX8_guards 33 = .ok (.iload_n 3, 1) := by decide +kernel
theorem dX8_guards_34 : decode cX8_guards 34 = .ok (.invokevirtual 200, 3) := by decide +kernel
theorem dX8_guards_37 : decode cX8_guards 37 = .ok (.iconst (-1), 1) := by decide +kernel
theorem dX8_guards_38 : decode cX8_guards 38 = .ok (.if_icmp .ne 9, 3) := by decide +kernel
theorem dX8_guards_41 : decode cX8_guards 41 = .ok (.iconst 1, 1) := by decide +kernel
theorem dX8_guards_42 : decode cX8_guards 42 = .ok (.iload_n 3, 1) := by decide +kernel
theorem dX8_guards_43 : decode cX8_guards 43 = .ok (.ishl, 1) := by decide +kernel
theorem dX8_guards_44 : decode cX8_guards 44 = .ok (.goto 4, 3) := by decide +kernel
theorem dX8_guards_47 : decode cX8_guards 47 = .ok (.iconst 0, 1) := by decide +kernel
theorem dX8_guards_48 : decode cX8_guards 48 = .ok (.ior, 1) := by decide +kernel
theorem dX8_guards_49 : decode cX8_guards 49 = .ok (.istore_n 2, 1) := by decide +kernel
theorem dX8_guards_50 : decode cX8_guards 50 = .ok (.iinc 3 1, 3) := by decide +kernel
theorem dX8_guards_53 : decode cX8_guards 53 = .ok (.goto (-32), 3) := by decide +kernel
theorem dX8_guards_56 : decode cX8_guards 56 = .ok (.ldc_w 470, 3) := by decide +kernel
theorem dX8_guards_59 : decode cX8_guards 59 = .ok (.istore_n 3, 1) := by decide +kernel
theorem dX8_guards_60 : decode cX8_guards 60 = .ok (.iconst 0, 1) := by decide +kernel
theorem dX8_guards_61 : decode cX8_guards 61 = .ok (.istore 4, 2) := by decide +kernel
theorem dX8_guards_63 : decode cX8_guards 63 = .ok (.iconst 0, 1) := by decide +kernel
theorem dX8_guards_64 : decode cX8_guards 64 = .ok (.istore 5, 2) := by decide +kernel
theorem dX8_guards_66 : decode cX8_guards 66 = .ok (.iload 5, 2) := by decide +kernel
theorem dX8_guards_68 : decode cX8_guards 68 = .ok (.iconst 1, 1) := by decide +kernel
theorem dX8_guards_69 : decode cX8_guards 69 = .ok (.aload_n 0, 1) := by decide +kernel
theorem dX8_guards_70 : decode cX8_guards 70 = .ok (.getfield 13, 3) := by decide +kernel
theorem dX8_guards_73 : decode cX8_guards 73 = .ok (.iconst 0, 1) := by decide +kernel
theorem dX8_guards_74 : decode cX8_guards 74 = .ok (.iaload, 1) := by decide +kernel
theorem dX8_guards_75 : decode cX8_guards 75 = .ok (.ishl, 1) := by decide +kernel
theorem dX8_guards_76 : decode cX8_guards 76 = .ok (.if_icmp .ge 51, 3) := by decide +kernel
theorem dX8_guards_79 : decode cX8_guards 79 = .ok (.iload 5, 2) := by decide +kernel
theorem dX8_guards_81 : decode cX8_guards 81 = .ok (.iload 5, 2) := by decide +kernel
theorem dX8_guards_83 : decode cX8_guards 83 = .ok (.iconst 1, 1) := by decide +kernel
theorem dX8_guards_84 : decode cX8_guards 84 = .ok (.ishl, 1) := by decide +kernel
theorem dX8_guards_85 : decode cX8_guards 85 = .ok (.ior, 1) := by decide +kernel
theorem dX8_guards_86 : decode cX8_guards 86 = .ok (.iload 5, 2) := by decide +kernel
theorem dX8_guards_88 : decode cX8_guards 88 = .ok (.iconst 1, 1) := by decide +kernel
theorem dX8_guards_89 : decode cX8_guards 89 = .ok (.ishr, 1) := by decide +kernel
theorem dX8_guards_90 : decode cX8_guards 90 = .ok (.ior, 1) := by decide +kernel
theorem dX8_guards_91 : decode cX8_guards 91 = .ok (.istore 6, 2) := by decide +kernel
theorem dX8_guards_93 : decode cX8_guards 93 = .ok (.iload_n 2, 1) := by decide +kernel
theorem dX8_guards_94 : decode cX8_guards 94 = .ok (.iload 6, 2) := by decide +kernel
theorem dX8_guards_96 : decode cX8_guards 96 = .ok (.iconst (-1), 1) := by decide +kernel
theorem dX8_guards_97 : decode cX8_guards 97 = .ok (.ixor, 1) := by decide +kernel
theorem dX8_guards_98 : decode cX8_guards 98 = .ok (.iand, 1) := by decide +kernel
theorem dX8_guards_99 : decode cX8_guards 99 = .ok (.ifCond .ne 22, 3) := by decide +kernel
theorem dX8_guards_102 : decode cX8_guards 102 = .ok (.iload 5, 2) := by decide +kernel
theorem dX8_guards_104 : decode cX8_guards 104 = .ok (.invokestatic 474, 3) := by decide +kernel
theorem dX8_guards_107 : decode cX8_guards 107 = .ok (.iload_n 3, 1) := by decide +kernel
theorem dX8_guards_108 : decode cX8_guards 108 = .ok (.if_icmp .ge 13, 3) := by decide +kernel
theorem dX8_guards_111 : decode cX8_guards 111 = .ok (.iload 5, 2) := by decide +kernel
theorem dX8_guards_113 : decode cX8_guards 113 = .ok (.invokestatic 474, 3) := by decide +kernel
theorem dX8_guards_116 : decode cX8_guards 116 = .ok (.istore_n 3, 1) := by decide +kernel
theorem dX8_guards_117 : decode cX8_guards 117 = .ok (.iload 5, 2) := by decide +kernel
theorem dX8_guards_119 : decode cX8_guards 119 = .ok (.istore 4, 2) := by decide +kernel
theorem dX8_guards_121 : decode cX8_guards 121 = .ok (.iinc 5 1, 3) := by decide +kernel
theorem dX8_guards_124 : decode cX8_guards 124 = .ok (.goto (-58), 3) := by decide +kernel
theorem dX8_guards_127 : decode cX8_guards 127 = .ok (.iload_n 1, 1) := by decide +kernel
theorem dX8_guards_128 : decode cX8_guards 128 = .ok (.ifCond .ne 7, 3) := by decide +kernel
theorem dX8_guards_131 : decode cX8_guards 131 = .ok (.iload_n 3, 1) := by decide +kernel
theorem dX8_guards_132 : decode cX8_guards 132 = .ok (.goto 5, 3) := by decide +kernel
theorem dX8_guards_135 : decode cX8_guards 135 = .ok (.iload 4, 2) := by decide +kernel
theorem dX8_guards_137 : decode cX8_guards 137 = .ok (.ireturn, 1) := by decide +kernel
theorem dX8_share_0 : decode cX8_share 0 = .ok (.aload_n 0, 1) := by decide +kernel
theorem dX8_share_1 : decode cX8_share 1 = .ok (.iconst 0, 1) := by decide +kernel
theorem dX8_share_2 : decode cX8_share 2 = .ok (.putfield 161, 3) := by decide +kernel
theorem dX8_share_5 : decode cX8_share 5 = .ok (.iload_n 1, 1) := by decide +kernel
theorem dX8_share_6 : decode cX8_share 6 = .ok (.i2l, 1) := by decide +kernel
theorem dX8_share_7 : decode cX8_share 7 = .ok (.lconst 0, 1) := by decide +kernel
theorem dX8_share_8 : decode cX8_share 8 = .ok (.ldc2_w 511, 3) := by decide +kernel
theorem dX8_share_11 : decode cX8_share 11 = .ok (.invokestatic 181, 3) := by decide +kernel
theorem dX8_share_14 : decode cX8_share 14 = .ok (.ifCond .eq 19, 3) := by decide +kernel
theorem dX8_share_17 : decode cX8_share 17 = .ok (.aload_n 0, 1) := by decide +kernel
theorem dX8_share_18 : decode cX8_share 18 = .ok (.iload_n 2, 1) := by decide +kernel
theorem dX8_share_19 : decode cX8_share 19 = .ok (.invokevirtual 203, 3) := by decide +kernel
theorem dX8_share_22 : decode cX8_share 22 = .ok (.ifCond .eq 11, 3) := by decide +kernel
theorem dX8_share_25 : decode cX8_share 25 = .ok (.aload_n 0, 1) := by decide +kernel
theorem dX8_share_26 : decode cX8_share 26 = .ok (.iload_n 2, 1) := by decide +kernel
theorem dX8_share_27 : decode cX8_share 27 = .ok (.invokevirtual 441, 3) := by decide +kernel
theorem dX8_share_30 : decode cX8_share 30 = .ok (.ifCond .ne 5, 3) := by decide +kernel
theorem dX8_share_33 : decode cX8_share 33 = .ok (.iconst (-1), 1) := by decide +kernel
theorem dX8_share_34 : decode cX8_share 34 = .ok (.ireturn, 1) := by decide +kernel
theorem dX8_share_35 : decode cX8_share 35 = .ok (.iconst 0, 1) := by decide +kernel
theorem dX8_share_36 : decode cX8_share 36 = .ok (.istore_n 3, 1) := by decide +kernel
theorem dX8_share_37 : decode cX8_share 37 = .ok (.iconst 0, 1) := by decide +kernel
theorem dX8_share_38 : decode cX8_share 38 = .ok (.istore 4, 2) := by decide +kernel
theorem dX8_share_40 : decode cX8_share 40 = .ok (.iload 4, 2) := by decide +kernel
theorem dX8_share_42 : decode cX8_share 42 = .ok (.aload_n 0, 1) := by decide +kernel
theorem dX8_share_43 : decode cX8_share 43 = .ok (.getfield 13, 3) := by decide +kernel
theorem dX8_share_46 : decode cX8_share 46 = .ok (.iconst 1, 1) := by decide +kernel
theorem dX8_share_47 : decode cX8_share 47 = .ok (.iaload, 1) := by decide +kernel
theorem dX8_share_48 : decode cX8_share 48 = .ok (.if_icmp .ge 35, 3) := by decide +kernel
theorem dX8_share_51 : decode cX8_share 51 = .ok (.iload_n 3, 1) := by decide +kernel
theorem dX8_share_52 : decode cX8_share 52 = .ok (.aload_n 0, 1) := by decide +kernel
theorem dX8_share_53 : decode cX8_share 53 = .ok (.iload 4, 2) := by decide +kernel
theorem dX8_share_55 : decode cX8_share 55 = .ok (.invokevirtual 441, 3) := by decide +kernel
theorem dX8_share_58 : decode cX8_share 58 = .ok (.ifCond .eq 16, 3) := by decide +kernel
theorem dX8_share_61 : decode cX8_share 61 = .ok (.aload_n 0, 1) := by decide +kernel
theorem dX8_share_62 : decode cX8_share 62 = .ok (.getfield 13, 3) := by decide +kernel
theorem dX8_share_65 : decode cX8_share 65 = .ok (.bipush 72, 2) := by decide +kernel
theorem dX8_share_67 : decode cX8_share 67 = .ok (.iload 4, 2) := by decide +kernel
theorem dX8_share_69 : decode cX8_share 69 = .ok (.iadd, 1) := by decide +kernel
theorem dX8_share_70 : decode cX8_share 70 = .ok (.iaload, 1) := by decide +kernel
theorem dX8_share_71 : decode cX8_share 71 = .ok (.goto 4, 3) := by decide +kernel
theorem dX8_share_74 : decode cX8_share 74 = .ok (.iconst 0, 1) := by decide +kernel
theorem dX8_share_75 : decode cX8_share 75 = .ok (.iadd, 1) := by decide +kernel
theorem dX8_share_76 : decode cX8_share 76 = .ok (.istore_n 3, 1) := by decide +kernel
theorem dX8_share_77 : decode cX8_share 77 = .ok (.iinc 4 1, 3) := by decide +kernel
theorem dX8_share_80 : decode cX8_share 80 = .ok (.goto (-40), 3) := by decide +kernel
theorem dX8_share_83 : decode cX8_share 83 = .ok (.iload_n 1, 1) := by decide +kernel
theorem dX8_share_84 : decode cX8_share 84 = .ok (.istore 4, 2) := by decide +kernel
theorem dX8_share_86 : decode cX8_share 86 = .ok (.iconst 0, 1) := by decide +kernel
theorem dX8_share_87 : decode cX8_share 87 = .ok (.istore 5, 2) := by decide +kernel
theorem dX8_share_89 : decode cX8_share 89 = .ok (.iload 5, 2) := by decide +kernel
theorem dX8_share_91 : decode cX8_share 91 = .ok (.aload_n 0, 1) := by decide +kernel
theorem dX8_share_92 : decode cX8_share 92 = .ok (.getfield 13, 3) := by decide +kernel
theorem dX8_share_95 : decode cX8_share 95 = .ok (.iconst 1, 1) := by decide +kernel
theorem dX8_share_96 : decode cX8_share 96 = .ok (.iaload, 1) := by decide +kernel
theorem dX8_share_97 : decode cX8_share 97 = .ok (.if_icmp .ge 72, 3) := by decide +kernel
theorem dX8_share_100 : decode cX8_share 100 = .ok (.aload_n 0, 1) := by decide +kernel
theorem dX8_share_101 : decode cX8_share 101 = .ok (.iload 5, 2) := by decide +kernel
theorem dX8_share_103 : decode cX8_share 103 = .ok (.invokevirtual 441, 3) := by decide +kernel
theorem dX8_share_106 : decode cX8_share 106 = .ok (.ifCond .eq 16, 3) := by decide +kernel
theorem dX8_share_109 : decode cX8_share 109 = .ok (.aload_n 0, 1) := by decide +kernel
theorem dX8_share_110 : decode cX8_share 110 = .ok (.getfield 13, 3) := by decide +kernel
theorem dX8_share_113 : decode cX8_share 113 = .ok (.bipush 72, 2) := by decide +kernel
theorem dX8_share_115 : decode cX8_share 115 = .ok (.iload 5, 2) := by decide +kernel
theorem dX8_share_117 : decode cX8_share 117 = .ok (.iadd, 1) := by decide +kernel
theorem dX8_share_118 : decode cX8_share 118 = .ok (.iaload, 1) := by decide +kernel
theorem dX8_share_119 : decode cX8_share 119 = .ok (.goto 4, 3) := by decide +kernel
theorem dX8_share_122 : decode cX8_share 122 = .ok (.iconst 0, 1) := by decide +kernel
theorem dX8_share_123 : decode cX8_share 123 = .ok (.istore 6, 2) := by decide +kernel
theorem dX8_share_125 : decode cX8_share 125 = .ok (.aload_n 0, 1) := by decide +kernel
theorem dX8_share_126 : decode cX8_share 126 = .ok (.getfield 129, 3) := by decide +kernel
theorem dX8_share_129 : decode cX8_share 129 = .ok (.iload 5, 2) := by decide +kernel
theorem dX8_share_131 : decode cX8_share 131 = .ok (.iload_n 1, 1) := by decide +kernel
theorem dX8_share_132 : decode cX8_share 132 = .ok (.iload 6, 2) := by decide +kernel
theorem dX8_share_134 : decode cX8_share 134 = .ok (.imul, 1) := by decide +kernel
theorem dX8_share_135 : decode cX8_share 135 = .ok (.iload_n 3, 1) := by decide +kernel
theorem dX8_share_136 : decode cX8_share 136 = .ok (.idiv, 1) := by decide +kernel
theorem dX8_share_137 : decode cX8_share 137 = .ok (.iastore, 1) := by decide +kernel
theorem dX8_share_138 : decode cX8_share 138 = .ok (.aload_n 0, 1) := by decide +kernel
theorem dX8_share_139 : decode cX8_share 139 = .ok (.getfield 132, 3) := by decide +kernel
theorem dX8_share_142 : decode cX8_share 142 = .ok (.iload 5, 2) := by decide +kernel
theorem dX8_share_144 : decode cX8_share 144 = .ok (.iload_n 1, 1) := by decide +kernel
theorem dX8_share_145 : decode cX8_share 145 = .ok (.iload 6, 2) := by decide +kernel
theorem dX8_share_147 : decode cX8_share 147 = .ok (.imul, 1) := by decide +kernel
theorem dX8_share_148 : decode cX8_share 148 = .ok (.iload_n 3, 1) := by decide +kernel
theorem dX8_share_149 : decode cX8_share 149 = .ok (.irem, 1) := by decide +kernel
theorem dX8_share_150 : decode cX8_share 150 = .ok (.iastore, 1) := by decide +kernel
theorem dX8_share_151 : decode cX8_share 151 = .ok (.iload 4, 2) := by decide +kernel
theorem dX8_share_153 : decode cX8_share 153 = .ok (.aload_n 0, 1) := by decide +kernel
theorem dX8_share_154 : decode cX8_share 154 = .ok (.getfield 129, 3) := by decide +kernel
theorem dX8_share_157 : decode cX8_share 157 = .ok (.iload 5, 2) := by decide +kernel
theorem dX8_share_159 : decode cX8_share 159 = .ok (.iaload, 1) := by decide +kernel
theorem dX8_share_160 : decode cX8_share 160 = .ok (.isub, 1) := by decide +kernel
theorem dX8_share_161 : decode cX8_share 161 = .ok (.istore 4, 2) := by decide +kernel
theorem dX8_share_163 : decode cX8_share 163 = .ok (.iinc 5 1, 3) := by decide +kernel
theorem dX8_share_166 : decode cX8_share 166 = .ok (.goto (-77), 3) := by decide +kernel
theorem dX8_share_169 : decode cX8_share 169 = .ok (.iload 4, 2) := by decide +kernel
theorem dX8_share_171 : decode cX8_share 171 = .ok (.ifCond .le 77, 3) := by decide +kernel
theorem dX8_share_174 : decode cX8_share 174 = .ok (.iconst 0, 1) := by decide +kernel
theorem dX8_share_175 : decode cX8_share 175 = .ok (.istore 5, 2) := by decide +kernel
theorem dX8_share_177 : decode cX8_share 177 = .ok (.iconst 1, 1) := by decide +kernel
theorem dX8_share_178 : decode cX8_share 178 = .ok (.istore 6, 2) := by decide +kernel
theorem dX8_share_180 : decode cX8_share 180 = .ok (.iload 6, 2) := by decide +kernel
theorem dX8_share_182 : decode cX8_share 182 = .ok (.aload_n 0, 1) := by decide +kernel
theorem dX8_share_183 : decode cX8_share 183 = .ok (.getfield 13, 3) := by decide +kernel
theorem dX8_share_186 : decode cX8_share 186 = .ok (.iconst 1, 1) := by decide +kernel
theorem dX8_share_187 : decode cX8_share 187 = .ok (.iaload, 1) := by decide +kernel
theorem dX8_share_188 : decode cX8_share 188 = .ok (.if_icmp .ge 35, 3) := by decide +kernel
theorem dX8_share_191 : decode cX8_share 191 = .ok (.aload_n 0, 1) := by decide +kernel
theorem dX8_share_192 : decode cX8_share 192 = .ok (.getfield 132, 3) := by decide +kernel
theorem dX8_share_195 : decode cX8_share 195 = .ok (.iload 6, 2) := by decide +kernel
theorem dX8_share_197 : decode cX8_share 197 = .ok (.iaload, 1) := by decide +kernel
theorem dX8_share_198 : decode cX8_share 198 = .ok (.aload_n 0, 1) := by decide +kernel
theorem dX8_share_199 : decode cX8_share 199 = .ok (.getfield 132, 3) := by decide +kernel
theorem dX8_share_202 : decode cX8_share 202 = .ok (.iload 5, 2) := by decide +kernel
theorem dX8_share_204 : decode cX8_share 204 = .ok (.iaload, 1) := by decide +kernel
theorem dX8_share_205 : decode cX8_share 205 = .ok (.if_icmp .le 8, 3) := by decide +kernel
theorem dX8_share_208 : decode cX8_share 208 = .ok (.iload 6, 2) := by decide +kernel
theorem dX8_share_210 : decode cX8_share 210 = .ok (.goto 5, 3) := by decide +kernel
theorem dX8_share_213 : decode cX8_share 213 = .ok (.iload 5, 2) := by decide +kernel
theorem dX8_share_215 : decode cX8_share 215 = .ok (.istore 5, 2) := by decide +kernel
theorem dX8_share_217 : decode cX8_share 217 = .ok (.iinc 6 1, 3) := by decide +kernel
theorem dX8_share_220 : decode cX8_share 220 = .ok (.goto (-40), 3) := by decide +kernel
theorem dX8_share_223 : decode cX8_share 223 = .ok (.aload_n 0, 1) := by decide +kernel
theorem dX8_share_224 : decode cX8_share 224 = .ok (.getfield 129, 3) := by decide +kernel
theorem dX8_share_227 : decode cX8_share 227 = .ok (.iload 5, 2) := by decide +kernel
theorem dX8_share_229 : decode cX8_share 229 = .ok (.dup2, 1) := by decide +kernel
theorem dX8_share_230 : decode cX8_share 230 = .ok (.iaload, 1) := by decide +kernel
theorem dX8_share_231 : decode cX8_share 231 = .ok (.iconst 1, 1) := by decide +kernel
theorem dX8_share_232 : decode cX8_share 232 = .ok (.iadd, 1) := by decide +kernel
theorem dX8_share_233 : decode cX8_share 233 = .ok (.iastore, 1) := by decide +kernel
theorem dX8_share_234 : decode cX8_share 234 = .ok (.aload_n 0, 1) := by decide +kernel
theorem dX8_share_235 : decode cX8_share 235 = .ok (.getfield 132, 3) := by decide +kernel
theorem dX8_share_238 : decode cX8_share 238 = .ok (.iload 5, 2) := by decide +kernel
theorem dX8_share_240 : decode cX8_share 240 = .ok (.iconst (-1), 1) := by decide +kernel
theorem dX8_share_241 : decode cX8_share 241 = .ok (.iastore, 1) := by decide +kernel
theorem dX8_share_242 : decode cX8_share 242 = .ok (.iinc 4 (-1), 3) := by decide +kernel
theorem dX8_share_245 : decode cX8_share 245 = .ok (.goto (-76), 3) := by decide +kernel
theorem dX8_share_248 : decode cX8_share 248 = .ok (.aload_n 0, 1) := by decide +kernel
theorem dX8_share_249 : decode cX8_share 249 = .ok (.getfield 129, 3) := by decide +kernel
theorem dX8_share_252 : decode cX8_share 252 = .ok (.iload_n 2, 1) := by decide +kernel
theorem dX8_share_253 : decode cX8_share 253 = .ok (.iaload, 1) := by decide +kernel
theorem dX8_share_254 : decode cX8_share 254 = .ok (.ireturn, 1) := by decide +kernel
theorem dX8_readSum_0 : decode cX8_readSum 0 = .ok (.aload_n 0, 1) := by decide +kernel
theorem dX8_readSum_1 : decode cX8_readSum 1 = .ok (.getfield 146, 3) := by decide +kernel
theorem dX8_readSum_4 : decode cX8_readSum 4 = .ok (.iload_n 1, 1) := by decide +kernel
theorem dX8_readSum_5 : decode cX8_readSum 5 = .ok (.aload_n 0, 1) := by decide +kernel
theorem dX8_readSum_6 : decode cX8_readSum 6 = .ok (.getfield 289, 3) := by decide +kernel
theorem dX8_readSum_9 : decode cX8_readSum 9 = .ok (.iastore, 1) := by decide +kernel
theorem dX8_readSum_10 : decode cX8_readSum 10 = .ok (.aload_n 0, 1) := by decide +kernel
theorem dX8_readSum_11 : decode cX8_readSum 11 = .ok (.getfield 250, 3) := by decide +kernel
theorem dX8_readSum_14 : decode cX8_readSum 14 = .ok (.ifCond .ne 8, 3) := by decide +kernel
theorem dX8_readSum_17 : decode cX8_readSum 17 = .ok (.aload_n 0, 1) := by decide +kernel
theorem dX8_readSum_18 : decode cX8_readSum 18 = .ok (.iconst 0, 1) := by decide +kernel
theorem dX8_readSum_19 : decode cX8_readSum 19 = .ok (.invokevirtual 384, 3) := by decide +kernel
theorem dX8_readSum_22 : decode cX8_readSum 22 = .ok (.aload_n 0, 1) := by decide +kernel
theorem dX8_readSum_23 : decode cX8_readSum 23 = .ok (.getfield 146, 3) := by decide +kernel
theorem dX8_readSum_26 : decode cX8_readSum 26 = .ok (.iload_n 1, 1) := by decide +kernel
theorem dX8_readSum_27 : decode cX8_readSum 27 = .ok (.iconst 1, 1) := by decide +kernel
theorem dX8_readSum_28 : decode cX8_readSum 28 = .ok (.iadd, 1) := by decide +kernel
theorem dX8_readSum_29 : decode cX8_readSum 29 = .ok (.aload_n 0, 1) := by decide +kernel
theorem dX8_readSum_30 : decode cX8_readSum 30 = .ok (.getfield 289, 3) := by decide +kernel
theorem dX8_readSum_33 : decode cX8_readSum 33 = .ok (.iastore, 1) := by decide +kernel
theorem dX8_readSum_34 : decode cX8_readSum 34 = .ok (.return_, 1) := by decide +kernel
theorem dX8_readOrder_0 : decode cX8_readOrder 0 = .ok (.iconst (-1), 1) := by decide +kernel
theorem dX8_readOrder_1 : decode cX8_readOrder 1 = .ok (.istore_n 1, 1) := by decide +kernel
theorem dX8_readOrder_2 : decode cX8_readOrder 2 = .ok (.iconst 0, 1) := by decide +kernel
theorem dX8_readOrder_3 : decode cX8_readOrder 3 = .ok (.istore_n 2, 1) := by decide +kernel
theorem dX8_readOrder_4 : decode cX8_readOrder 4 = .ok (.iload_n 2, 1) := by decide +kernel
theorem dX8_readOrder_5 : decode cX8_readOrder 5 = .ok (.iconst 5, 1) := by decide +kernel
theorem dX8_readOrder_6 : decode cX8_readOrder 6 = .ok (.if_icmp .ge 28, 3) := by decide +kernel
theorem dX8_readOrder_9 : decode cX8_readOrder 9 = .ok (.aload_n 0, 1) := by decide +kernel
theorem dX8_readOrder_10 : decode cX8_readOrder 10 = .ok (.aload_n 0, 1) := by decide +kernel
theorem dX8_readOrder_11 : decode cX8_readOrder 11 = .ok (.getfield 143, 3) := by decide +kernel
theorem dX8_readOrder_14 : decode cX8_readOrder 14 = .ok (.iload_n 2, 1) := by decide +kernel
theorem dX8_readOrder_15 : decode cX8_readOrder 15 = .ok (.laload, 1) := by decide +kernel
theorem dX8_readOrder_16 : decode cX8_readOrder 16 = .ok (.invokevirtual 308, 3) := by decide +kernel
theorem dX8_readOrder_19 : decode cX8_readOrder 19 = .ok (.ifCond .eq 7, 3) := by decide +kernel
theorem dX8_readOrder_22 : decode cX8_readOrder 22 = .ok (.iload_n 2, 1) := by decide +kernel
theorem dX8_readOrder_23 : decode cX8_readOrder 23 = .ok (.goto 4, 3) := by decide +kernel
theorem dX8_readOrder_26 : decode cX8_readOrder 26 = .ok (.iload_n 1, 1) := by decide +kernel
theorem dX8_readOrder_27 : decode cX8_readOrder 27 = .ok (.istore_n 1, 1) := by decide +kernel
theorem dX8_readOrder_28 : decode cX8_readOrder 28 = .ok (.iinc 2 1, 3) := by decide +kernel
theorem dX8_readOrder_31 : decode cX8_readOrder 31 = .ok (.goto (-27), 3) := by decide +kernel
theorem dX8_readOrder_34 : decode cX8_readOrder 34 = .ok (.aload_n 0, 1) := by decide +kernel
theorem dX8_readOrder_35 : decode cX8_readOrder 35 = .ok (.iload_n 1, 1) := by decide +kernel
theorem dX8_readOrder_36 : decode cX8_readOrder 36 = .ok (.iconst (-1), 1) := by decide +kernel
theorem dX8_readOrder_37 : decode cX8_readOrder 37 = .ok (.if_icmp .eq 16, 3) := by decide +kernel
theorem dX8_readOrder_40 : decode cX8_readOrder 40 = .ok (.aload_n 0, 1) := by decide +kernel
theorem dX8_readOrder_41 : decode cX8_readOrder 41 = .ok (.getfield 381, 3) := by decide +kernel
theorem dX8_readOrder_44 : decode cX8_readOrder 44 = .ok (.bipush 12, 2) := by decide +kernel
theorem dX8_readOrder_46 : decode cX8_readOrder 46 = .ok (.if_icmp .ge 7, 3) := by decide +kernel
theorem dX8_readOrder_49 : decode cX8_readOrder 49 = .ok (.iconst 1, 1) := by decide +kernel
theorem dX8_readOrder_50 : decode cX8_readOrder 50 = .ok (.goto 4, 3) := by decide +kernel
theorem dX8_readOrder_53 : decode cX8_readOrder 53 = .ok (.iconst 0, 1) := by decide +kernel
theorem dX8_readOrder_54 : decode cX8_readOrder 54 = .ok (.invokevirtual 285, 3) := by decide +kernel
theorem dX8_readOrder_57 : decode cX8_readOrder 57 = .ok (.aload_n 0, 1) := by decide +kernel
theorem dX8_readOrder_58 : decode cX8_readOrder 58 = .ok (.getfield 250, 3) := by decide +kernel
theorem dX8_readOrder_61 : decode cX8_readOrder 61 = .ok (.ifCond .eq 4, 3) := by decide +kernel
theorem dX8_readOrder_64 : decode cX8_readOrder 64 = .ok (.return_, 1) := by decide +kernel
theorem dX8_readOrder_65 : decode cX8_readOrder 65 = .ok (.bipush 8, 2) := by decide +kernel
theorem dX8_readOrder_67 : decode cX8_readOrder 67 = .ok (.aload_n 0, 1) := by decide +kernel
theorem dX8_readOrder_68 : decode cX8_readOrder 68 = .ok (.getfield 381, 3) := by decide +kernel
theorem dX8_readOrder_71 : decode cX8_readOrder 71 = .ok (.imul, 1) := by decide +kernel
theorem dX8_readOrder_72 : decode cX8_readOrder 72 = .ok (.istore_n 2, 1) := by decide +kernel
theorem dX8_readOrder_73 : decode cX8_readOrder 73 = .ok (.aload_n 0, 1) := by decide +kernel
theorem dX8_readOrder_74 : decode cX8_readOrder 74 = .ok (.dup, 1) := by decide +kernel
theorem dX8_readOrder_75 : decode cX8_readOrder 75 = .ok (.getfield 381, 3) := by decide +kernel
theorem dX8_readOrder_78 : decode cX8_readOrder 78 = .ok (.iconst 1, 1) := by decide +kernel
theorem dX8_readOrder_79 : decode cX8_readOrder 79 = .ok (.iadd, 1) := by decide +kernel
theorem dX8_readOrder_80 : decode cX8_readOrder 80 = .ok (.putfield 381, 3) := by decide +kernel
theorem dX8_readOrder_83 : decode cX8_readOrder 83 = .ok (.iconst 0, 1) := by decide +kernel
theorem dX8_readOrder_84 : decode cX8_readOrder 84 = .ok (.istore_n 3, 1) := by decide +kernel
theorem dX8_readOrder_85 : decode cX8_readOrder 85 = .ok (.iload_n 3, 1) := by decide +kernel
theorem dX8_readOrder_86 : decode cX8_readOrder 86 = .ok (.bipush 8, 2) := by decide +kernel
theorem dX8_readOrder_88 : decode cX8_readOrder 88 = .ok (.if_icmp .ge 18, 3) := by decide +kernel
theorem dX8_readOrder_91 : decode cX8_readOrder 91 = .ok (.aload_n 0, 1) := by decide +kernel
theorem dX8_readOrder_92 : decode cX8_readOrder 92 = .ok (.getfield 146, 3) := by decide +kernel
theorem dX8_readOrder_95 : decode cX8_readOrder 95 = .ok (.iload_n 2, 1) := by decide +kernel
theorem dX8_readOrder_96 : decode cX8_readOrder 96 = .ok (.iload_n 3, 1) := by decide +kernel
theorem dX8_readOrder_97 : decode cX8_readOrder 97 = .ok (.iadd, 1) := by decide +kernel
theorem dX8_readOrder_98 : decode cX8_readOrder 98 = .ok (.iconst 0, 1) := by decide +kernel
theorem dX8_readOrder_99 : decode cX8_readOrder 99 = .ok (.iastore, 1) := by decide +kernel
theorem dX8_readOrder_100 : decode cX8_readOrder 100 = .ok (.iinc 3 1, 3) := by decide +kernel
theorem dX8_readOrder_103 : decode cX8_readOrder 103 = .ok (.goto (-18), 3) := by decide +kernel
theorem dX8_readOrder_106 : decode cX8_readOrder 106 = .ok (.aload_n 0, 1) := by decide +kernel
theorem dX8_readOrder_107 : decode cX8_readOrder 107 = .ok (.getfield 146, 3) := by decide +kernel
theorem dX8_readOrder_110 : decode cX8_readOrder 110 = .ok (.iload_n 2, 1) := by decide +kernel
theorem dX8_readOrder_111 : decode cX8_readOrder 111 = .ok (.iload_n 1, 1) := by decide +kernel
theorem dX8_readOrder_112 : decode cX8_readOrder 112 = .ok (.iastore, 1) := by decide +kernel
theorem dX8_readOrder_113 : decode cX8_readOrder 113 = .ok (.iload_n 1, 1) := by decide +kernel
theorem dX8_readOrder_114 : decode cX8_readOrder 114 = .ok (.iconst 4, 1) := by decide +kernel
theorem dX8_readOrder_115 : decode cX8_readOrder 115 = .ok (.if_icmp .eq 10, 3) := by decide +kernel
theorem dX8_readOrder_118 : decode cX8_readOrder 118 = .ok (.aload_n 0, 1) := by decide +kernel
theorem dX8_readOrder_119 : decode cX8_readOrder 119 = .ok (.iload_n 2, 1) := by decide +kernel
theorem dX8_readOrder_120 : decode cX8_readOrder 120 = .ok (.iconst 1, 1) := by decide +kernel
theorem dX8_readOrder_121 : decode cX8_readOrder 121 = .ok (.iadd, 1) := by decide +kernel
theorem dX8_readOrder_122 : decode cX8_readOrder 122 = .ok (.invokevirtual 513, 3) := by decide +kernel
theorem dX8_readOrder_125 : decode cX8_readOrder 125 = .ok (.iload_n 1, 1) := by decide +kernel
theorem dX8_readOrder_126 : decode cX8_readOrder 126 = .ok (.iconst 1, 1) := by decide +kernel
theorem dX8_readOrder_127 : decode cX8_readOrder 127 = .ok (.if_icmp .eq 8, 3) := by decide +kernel
theorem dX8_readOrder_130 : decode cX8_readOrder 130 = .ok (.iload_n 1, 1) := by decide +kernel
theorem dX8_readOrder_131 : decode cX8_readOrder 131 = .ok (.iconst 3, 1) := by decide +kernel
theorem dX8_readOrder_132 : decode cX8_readOrder 132 = .ok (.if_icmp .ne 39, 3) := by decide +kernel
theorem dX8_readOrder_135 : decode cX8_readOrder 135 = .ok (.aload_n 0, 1) := by decide +kernel
theorem dX8_readOrder_136 : decode cX8_readOrder 136 = .ok (.getfield 250, 3) := by decide +kernel
theorem dX8_readOrder_139 : decode cX8_readOrder 139 = .ok (.ifCond .ne 25, 3) := by decide +kernel
theorem dX8_readOrder_142 : decode cX8_readOrder 142 = .ok (.aload_n 0, 1) := by decide +kernel
theorem dX8_readOrder_143 : decode cX8_readOrder 143 = .ok (.aload_n 0, 1) := by decide +kernel
theorem dX8_readOrder_144 : decode cX8_readOrder 144 = .ok (.iload_n 1, 1) := by decide +kernel
theorem dX8_readOrder_145 : decode cX8_readOrder 145 = .ok (.iconst 1, 1) := by decide +kernel
theorem dX8_readOrder_146 : decode cX8_readOrder 146 = .ok (.if_icmp .ne 9, 3) := by decide +kernel
theorem dX8_readOrder_149 : decode cX8_readOrder 149 = .ok (.ldc2_w 516, 3) := by decide +kernel
theorem dX8_readOrder_152 : decode cX8_readOrder 152 = .ok (.goto 6, 3) := by decide +kernel
theorem dX8_readOrder_155 : decode cX8_readOrder 155 = .ok (.ldc2_w 518, 3) := by decide +kernel
theorem dX8_readOrder_158 : decode cX8_readOrder 158 = .ok (.invokevirtual 308, 3) := by decide +kernel
theorem dX8_readOrder_161 : decode cX8_readOrder 161 = .ok (.invokevirtual 285, 3) := by decide +kernel
theorem dX8_readOrder_164 : decode cX8_readOrder 164 = .ok (.aload_n 0, 1) := by decide +kernel
theorem dX8_readOrder_165 : decode cX8_readOrder 165 = .ok (.iload_n 2, 1) := by decide +kernel
theorem dX8_readOrder_166 : decode cX8_readOrder 166 = .ok (.iconst 3, 1) := by decide +kernel
theorem dX8_readOrder_167 : decode cX8_readOrder 167 = .ok (.iadd, 1) := by decide +kernel
theorem dX8_readOrder_168 : decode cX8_readOrder 168 = .ok (.invokevirtual 513, 3) := by decide +kernel
theorem dX8_readOrder_171 : decode cX8_readOrder 171 = .ok (.aload_n 0, 1) := by decide +kernel
theorem dX8_readOrder_172 : decode cX8_readOrder 172 = .ok (.getfield 146, 3) := by decide +kernel
theorem dX8_readOrder_175 : decode cX8_readOrder 175 = .ok (.iload_n 2, 1) := by decide +kernel
theorem dX8_readOrder_176 : decode cX8_readOrder 176 = .ok (.bipush 7, 2) := by decide +kernel
theorem dX8_readOrder_178 : decode cX8_readOrder 178 = .ok (.iadd, 1) := by decide +kernel
theorem dX8_readOrder_179 : decode cX8_readOrder 179 = .ok (.iconst 1, 1) := by decide +kernel
theorem dX8_readOrder_180 : decode cX8_readOrder 180 = .ok (.iastore, 1) := by decide +kernel
theorem dX8_readOrder_181 : decode cX8_readOrder 181 = .ok (.aload_n 0, 1) := by decide +kernel
theorem dX8_readOrder_182 : decode cX8_readOrder 182 = .ok (.getfield 250, 3) := by decide +kernel
theorem dX8_readOrder_185 : decode cX8_readOrder 185 = .ok (.ifCond .ne 34, 3) := by decide +kernel
theorem dX8_readOrder_188 : decode cX8_readOrder 188 = .ok (.aload_n 0, 1) := by decide +kernel
theorem dX8_readOrder_189 : decode cX8_readOrder 189 = .ok (.ldc2_w 520, 3) := by decide +kernel
theorem dX8_readOrder_192 : decode cX8_readOrder 192 = .ok (.invokevirtual 308, 3) := by decide +kernel
theorem dX8_readOrder_195 : decode cX8_readOrder 195 = .ok (.ifCond .eq 24, 3) := by decide +kernel
theorem dX8_readOrder_198 : decode cX8_readOrder 198 = .ok (.aload_n 0, 1) := by decide +kernel
theorem dX8_readOrder_199 : decode cX8_readOrder 199 = .ok (.invokevirtual 254, 3) := by decide +kernel
theorem dX8_readOrder_202 : decode cX8_readOrder 202 = .ok (.aload_n 0, 1) := by decide +kernel
theorem dX8_readOrder_203 : decode cX8_readOrder 203 = .ok (.getfield 146, 3) := by decide +kernel
theorem dX8_readOrder_206 : decode cX8_readOrder 206 = .ok (.iload_n 2, 1) := by decide +kernel
theorem dX8_readOrder_207 : decode cX8_readOrder 207 = .ok (.bipush 7, 2) := by decide +kernel
theorem dX8_readOrder_209 : decode cX8_readOrder 209 = .ok (.iadd, 1) := by decide +kernel
theorem dX8_readOrder_210 : decode cX8_readOrder 210 = .ok (.aload_n 0, 1) := by decide +kernel
theorem dX8_readOrder_211 : decode cX8_readOrder 211 = .ok (.lconst 1, 1) := by decide +kernel
theorem dX8_readOrder_212 : decode cX8_readOrder 212 = .ok (.ldc2_w 302, 3) := by decide +kernel
theorem dX8_readOrder_215 : decode cX8_readOrder 215 = .ok (.invokevirtual 345, 3) := by decide +kernel
theorem dX8_readOrder_218 : decode cX8_readOrder 218 = .ok (.iastore, 1) := by decide +kernel
theorem dX8_readOrder_219 : decode cX8_readOrder 219 = .ok (.aload_n 0, 1) := by decide +kernel
theorem dX8_readOrder_220 : decode cX8_readOrder 220 = .ok (.getfield 146, 3) := by decide +kernel
theorem dX8_readOrder_223 : decode cX8_readOrder 223 = .ok (.iload_n 2, 1) := by decide +kernel
theorem dX8_readOrder_224 : decode cX8_readOrder 224 = .ok (.iconst 5, 1) := by decide +kernel
theorem dX8_readOrder_225 : decode cX8_readOrder 225 = .ok (.iadd, 1) := by decide +kernel
theorem dX8_readOrder_226 : decode cX8_readOrder 226 = .ok (.aload_n 0, 1) := by decide +kernel
theorem dX8_readOrder_227 : decode cX8_readOrder 227 = .ok (.getfield 289, 3) := by decide +kernel
theorem dX8_readOrder_230 : decode cX8_readOrder 230 = .ok (.iastore, 1) := by decide +kernel
theorem dX8_readOrder_231 : decode cX8_readOrder 231 = .ok (.aload_n 0, 1) := by decide +kernel
theorem dX8_readOrder_232 : decode cX8_readOrder 232 = .ok (.getfield 250, 3) := by decide +kernel
theorem dX8_readOrder_235 : decode cX8_readOrder 235 = .ok (.ifCond .ne 22, 3) := by decide +kernel
theorem dX8_readOrder_238 : decode cX8_readOrder 238 = .ok (.aload_n 0, 1) := by decide +kernel
theorem dX8_readOrder_239 : decode cX8_readOrder 239 = .ok (.ldc2_w 387, 3) := by decide +kernel
theorem dX8_readOrder_242 : decode cX8_readOrder 242 = .ok (.invokevirtual 308, 3) := by decide +kernel
theorem dX8_readOrder_245 : decode cX8_readOrder 245 = .ok (.ifCond .eq 12, 3) := by decide +kernel
theorem dX8_readOrder_248 : decode cX8_readOrder 248 = .ok (.aload_n 0, 1) := by decide +kernel
theorem dX8_readOrder_249 : decode cX8_readOrder 249 = .ok (.invokevirtual 254, 3) := by decide +kernel
theorem dX8_readOrder_252 : decode cX8_readOrder 252 = .ok (.aload_n 0, 1) := by decide +kernel
theorem dX8_readOrder_253 : decode cX8_readOrder 253 = .ok (.iconst 1, 1) := by decide +kernel
theorem dX8_readOrder_254 : decode cX8_readOrder 254 = .ok (.invokevirtual 384, 3) := by decide +kernel
theorem dX8_readOrder_257 : decode cX8_readOrder 257 = .ok (.aload_n 0, 1) := by decide +kernel
theorem dX8_readOrder_258 : decode cX8_readOrder 258 = .ok (.getfield 146, 3) := by decide +kernel
theorem dX8_readOrder_261 : decode cX8_readOrder 261 = .ok (.iload_n 2, 1) := by decide +kernel
theorem dX8_readOrder_262 : decode cX8_readOrder 262 = .ok (.bipush 6, 2) := by decide +kernel
theorem dX8_readOrder_264 : decode cX8_readOrder 264 = .ok (.iadd, 1) := by decide +kernel
theorem dX8_readOrder_265 : decode cX8_readOrder 265 = .ok (.aload_n 0, 1) := by decide +kernel
theorem dX8_readOrder_266 : decode cX8_readOrder 266 = .ok (.getfield 289, 3) := by decide +kernel
theorem dX8_readOrder_269 : decode cX8_readOrder 269 = .ok (.iastore, 1) := by decide +kernel
theorem dX8_readOrder_270 : decode cX8_readOrder 270 = .ok (.return_, 1) := by decide +kernel
theorem dX8_sumOf_0 : decode cX8_sumOf 0 = .ok (.aload_n 0, 1) := by decide +kernel
theorem dX8_sumOf_1 : decode cX8_sumOf 1 = .ok (.getfield 522, 3) := by decide +kernel
theorem dX8_sumOf_4 : decode cX8_sumOf 4 = .ok (.ifCond .ne 20, 3) := by decide +kernel
theorem dX8_sumOf_7 : decode cX8_sumOf 7 = .ok (.aload_n 0, 1) := by decide +kernel
theorem dX8_sumOf_8 : decode cX8_sumOf 8 = .ok (.getfield 146, 3) := by decide +kernel
theorem dX8_sumOf_11 : decode cX8_sumOf 11 = .ok (.iload_n 1, 1) := by decide +kernel
theorem dX8_sumOf_12 : decode cX8_sumOf 12 = .ok (.iaload, 1) := by decide +kernel
theorem dX8_sumOf_13 : decode cX8_sumOf 13 = .ok (.aload_n 0, 1) := by decide +kernel
theorem dX8_sumOf_14 : decode cX8_sumOf 14 = .ok (.getfield 146, 3) := by decide +kernel
theorem dX8_sumOf_17 : decode cX8_sumOf 17 = .ok (.iload_n 1, 1) := by decide +kernel
theorem dX8_sumOf_18 : decode cX8_sumOf 18 = .ok (.iconst 1, 1) := by decide +kernel
theorem dX8_sumOf_19 : decode cX8_sumOf 19 = .ok (.iadd, 1) := by decide +kernel
theorem dX8_sumOf_20 : decode cX8_sumOf 20 = .ok (.iaload, 1) := by decide +kernel
theorem dX8_sumOf_21 : decode cX8_sumOf 21 = .ok (.if_icmp .ne 5, 3) := by decide +kernel
theorem dX8_sumOf_24 : decode cX8_sumOf 24 = .ok (.iconst (-1), 1) := by decide +kernel
theorem dX8_sumOf_25 : decode cX8_sumOf 25 = .ok (.ireturn, 1) := by decide +kernel
theorem dX8_sumOf_26 : decode cX8_sumOf 26 = .ok (.aload_n 0, 1) := by decide +kernel
theorem dX8_sumOf_27 : decode cX8_sumOf 27 = .ok (.iconst 1, 1) := by decide +kernel
theorem dX8_sumOf_28 : decode cX8_sumOf 28 = .ok (.putfield 327, 3) := by decide +kernel
theorem dX8_sumOf_31 : decode cX8_sumOf 31 = .ok (.aload_n 0, 1) := by decide +kernel
theorem dX8_sumOf_32 : decode cX8_sumOf 32 = .ok (.aload_n 0, 1) := by decide +kernel
theorem dX8_sumOf_33 : decode cX8_sumOf 33 = .ok (.getfield 146, 3) := by decide +kernel
theorem dX8_sumOf_36 : decode cX8_sumOf 36 = .ok (.iload_n 1, 1) := by decide +kernel
theorem dX8_sumOf_37 : decode cX8_sumOf 37 = .ok (.iaload, 1) := by decide +kernel
theorem dX8_sumOf_38 : decode cX8_sumOf 38 = .ok (.aload_n 0, 1) := by decide +kernel
theorem dX8_sumOf_39 : decode cX8_sumOf 39 = .ok (.getfield 146, 3) := by decide +kernel
theorem dX8_sumOf_42 : decode cX8_sumOf 42 = .ok (.iload_n 1, 1) := by decide +kernel
theorem dX8_sumOf_43 : decode cX8_sumOf 43 = .ok (.iconst 1, 1) := by decide +kernel
theorem dX8_sumOf_44 : decode cX8_sumOf 44 = .ok (.iadd, 1) := by decide +kernel
theorem dX8_sumOf_45 : decode cX8_sumOf 45 = .ok (.iaload, 1) := by decide +kernel
theorem dX8_sumOf_46 : decode cX8_sumOf 46 = .ok (.invokevirtual 415, 3) := by decide +kernel
theorem dX8_sumOf_49 : decode cX8_sumOf 49 = .ok (.aload_n 0, 1) := by decide +kernel
theorem dX8_sumOf_50 : decode cX8_sumOf 50 = .ok (.iconst 0, 1) := by decide +kernel
theorem dX8_sumOf_51 : decode cX8_sumOf 51 = .ok (.putfield 327, 3) := by decide +kernel
theorem dX8_sumOf_54 : decode cX8_sumOf 54 = .ok (.aload_n 0, 1) := by decide +kernel
theorem dX8_sumOf_55 : decode cX8_sumOf 55 = .ok (.aload_n 0, 1) := by decide +kernel
theorem dX8_sumOf_56 : decode cX8_sumOf 56 = .ok (.getfield 398, 3) := by decide +kernel
theorem dX8_sumOf_59 : decode cX8_sumOf 59 = .ok (.putfield 522, 3) := by decide +kernel
theorem dX8_sumOf_62 : decode cX8_sumOf 62 = .ok (.aload_n 0, 1) := by decide +kernel
theorem dX8_sumOf_63 : decode cX8_sumOf 63 = .ok (.getfield 412, 3) := by decide +kernel
theorem dX8_sumOf_66 : decode cX8_sumOf 66 = .ok (.l2i, 1) := by decide +kernel
theorem dX8_sumOf_67 : decode cX8_sumOf 67 = .ok (.ireturn, 1) := by decide +kernel
theorem dX8_openHouses_0 : decode cX8_openHouses 0 = .ok (.iconst 0, 1) := by decide +kernel
theorem dX8_openHouses_1 : decode cX8_openHouses 1 = .ok (.istore_n 1, 1) := by decide +kernel
theorem dX8_openHouses_2 : decode cX8_openHouses 2 = .ok (.iconst 0, 1) := by decide +kernel
theorem dX8_openHouses_3 : decode cX8_openHouses 3 = .ok (.istore_n 2, 1) := by decide +kernel
theorem dX8_openHouses_4 : decode cX8_openHouses 4 = .ok (.iload_n 2, 1) := by decide +kernel
theorem dX8_openHouses_5 : decode cX8_openHouses 5 = .ok (.aload_n 0, 1) := by decide +kernel
theorem dX8_openHouses_6 : decode cX8_openHouses 6 = .ok (.getfield 13, 3) := by decide +kernel
theorem dX8_openHouses_9 : decode cX8_openHouses 9 = .ok (.iconst 0, 1) := by decide +kernel
theorem dX8_openHouses_10 : decode cX8_openHouses 10 = .ok (.iaload, 1) := by decide +kernel
theorem dX8_openHouses_11 : decode cX8_openHouses 11 = .ok (.if_icmp .ge 26, 3) := by decide +kernel
theorem dX8_openHouses_14 : decode cX8_openHouses 14 = .ok (.iload_n 1, 1) := by decide +kernel
theorem dX8_openHouses_15 : decode cX8_openHouses 15 = .ok (.aload_n 0, 1) := by decide +kernel
theorem dX8_openHouses_16 : decode cX8_openHouses 16 = .ok (.iload_n 2, 1) := by decide +kernel
theorem dX8_openHouses_17 : decode cX8_openHouses 17 = .ok (.invokevirtual 200, 3) := by decide +kernel
theorem dX8_openHouses_20 : decode cX8_openHouses 20 = .ok (.iconst (-1), 1) := by decide +kernel
theorem dX8_openHouses_21 : decode cX8_openHouses 21 = .ok (.if_icmp .ne 7, 3) := by decide +kernel
theorem dX8_openHouses_24 : decode cX8_openHouses 24 = .ok (.iconst 1, 1) := by decide +kernel
theorem dX8_openHouses_25 : decode cX8_openHouses 25 = .ok (.goto 4, 3) := by decide +kernel
theorem dX8_openHouses_28 : decode cX8_openHouses 28 = .ok (.iconst 0, 1) := by decide +kernel
theorem dX8_openHouses_29 : decode cX8_openHouses 29 = .ok (.iadd, 1) := by decide +kernel
theorem dX8_openHouses_30 : decode cX8_openHouses 30 = .ok (.istore_n 1, 1) := by decide +kernel
theorem dX8_openHouses_31 : decode cX8_openHouses 31 = .ok (.iinc 2 1, 3) := by decide +kernel
theorem dX8_openHouses_34 : decode cX8_openHouses 34 = .ok (.goto (-30), 3) := by decide +kernel
theorem dX8_openHouses_37 : decode cX8_openHouses 37 = .ok (.iload_n 1, 1) := by decide +kernel
theorem dX8_openHouses_38 : decode cX8_openHouses 38 = .ok (.ireturn, 1) := by decide +kernel
theorem dX8_act_0 : decode cX8_act 0 = .ok (.iload_n 1, 1) := by decide +kernel
theorem dX8_act_1 : decode cX8_act 1 = .ok (.tableswitch 57 0 3 #[31, 37, 44, 50], 31) := by decide +kernel
theorem dX8_act_32 : decode cX8_act 32 = .ok (.aload_n 0, 1) := by decide +kernel
theorem dX8_act_33 : decode cX8_act 33 = .ok (.iload_n 2, 1) := by decide +kernel
theorem dX8_act_34 : decode cX8_act 34 = .ok (.invokevirtual 438, 3) := by decide +kernel
theorem dX8_act_37 : decode cX8_act 37 = .ok (.ireturn, 1) := by decide +kernel
theorem dX8_act_38 : decode cX8_act 38 = .ok (.aload_n 0, 1) := by decide +kernel
theorem dX8_act_39 : decode cX8_act 39 = .ok (.iload_n 2, 1) := by decide +kernel
theorem dX8_act_40 : decode cX8_act 40 = .ok (.iload_n 3, 1) := by decide +kernel
theorem dX8_act_41 : decode cX8_act 41 = .ok (.invokevirtual 447, 3) := by decide +kernel
theorem dX8_act_44 : decode cX8_act 44 = .ok (.ireturn, 1) := by decide +kernel
theorem dX8_act_45 : decode cX8_act 45 = .ok (.aload_n 0, 1) := by decide +kernel
theorem dX8_act_46 : decode cX8_act 46 = .ok (.iload_n 2, 1) := by decide +kernel
theorem dX8_act_47 : decode cX8_act 47 = .ok (.invokevirtual 453, 3) := by decide +kernel
theorem dX8_act_50 : decode cX8_act 50 = .ok (.ireturn, 1) := by decide +kernel
theorem dX8_act_51 : decode cX8_act 51 = .ok (.aload_n 0, 1) := by decide +kernel
theorem dX8_act_52 : decode cX8_act 52 = .ok (.iload_n 2, 1) := by decide +kernel
theorem dX8_act_53 : decode cX8_act 53 = .ok (.iload_n 3, 1) := by decide +kernel
theorem dX8_act_54 : decode cX8_act 54 = .ok (.invokevirtual 456, 3) := by decide +kernel
theorem dX8_act_57 : decode cX8_act 57 = .ok (.ireturn, 1) := by decide +kernel
theorem dX8_act_58 : decode cX8_act 58 = .ok (.aload_n 0, 1) := by decide +kernel
theorem dX8_act_59 : decode cX8_act 59 = .ok (.invokevirtual 465, 3) := by decide +kernel
theorem dX8_act_62 : decode cX8_act 62 = .ok (.ireturn, 1) := by decide +kernel
theorem dX8_run_0 : decode cX8_run 0 = .ok (.aload_n 0, 1) := by decide +kernel
theorem dX8_run_1 : decode cX8_run 1 = .ok (.getfield 108, 3) := by decide +kernel
theorem dX8_run_4 : decode cX8_run 4 = .ok (.iconst 1, 1) := by decide +kernel
theorem dX8_run_5 : decode cX8_run 5 = .ok (.aload_n 0, 1) := by decide +kernel
theorem dX8_run_6 : decode cX8_run 6 = .ok (.getfield 13, 3) := by decide +kernel
theorem dX8_run_9 : decode cX8_run 9 = .ok (.iconst 5, 1) := by decide +kernel
theorem dX8_run_10 : decode cX8_run 10 = .ok (.iaload, 1) := by decide +kernel
theorem dX8_run_11 : decode cX8_run 11 = .ok (.i2l, 1) := by decide +kernel
theorem dX8_run_12 : decode cX8_run 12 = .ok (.lastore, 1) := by decide +kernel
theorem dX8_run_13 : decode cX8_run 13 = .ok (.aload_n 0, 1) := by decide +kernel
theorem dX8_run_14 : decode cX8_run 14 = .ok (.getfield 108, 3) := by decide +kernel
theorem dX8_run_17 : decode cX8_run 17 = .ok (.iconst 2, 1) := by decide +kernel
theorem dX8_run_18 : decode cX8_run 18 = .ok (.aload_n 0, 1) := by decide +kernel
theorem dX8_run_19 : decode cX8_run 19 = .ok (.getfield 525, 3) := by decide +kernel
theorem dX8_run_22 : decode cX8_run 22 = .ok (.i2l, 1) := by decide +kernel
theorem dX8_run_23 : decode cX8_run 23 = .ok (.lastore, 1) := by decide +kernel
theorem dX8_run_24 : decode cX8_run 24 = .ok (.aload_n 0, 1) := by decide +kernel
theorem dX8_run_25 : decode cX8_run 25 = .ok (.getfield 108, 3) := by decide +kernel
theorem dX8_run_28 : decode cX8_run 28 = .ok (.iconst 3, 1) := by decide +kernel
theorem dX8_run_29 : decode cX8_run 29 = .ok (.aload_n 0, 1) := by decide +kernel
theorem dX8_run_30 : decode cX8_run 30 = .ok (.getfield 528, 3) := by decide +kernel
theorem dX8_run_33 : decode cX8_run 33 = .ok (.i2l, 1) := by decide +kernel
theorem dX8_run_34 : decode cX8_run 34 = .ok (.lastore, 1) := by decide +kernel
theorem dX8_run_35 : decode cX8_run 35 = .ok (.aload_n 0, 1) := by decide +kernel
theorem dX8_run_36 : decode cX8_run 36 = .ok (.getfield 108, 3) := by decide +kernel
theorem dX8_run_39 : decode cX8_run 39 = .ok (.iconst 4, 1) := by decide +kernel
theorem dX8_run_40 : decode cX8_run 40 = .ok (.aload_n 0, 1) := by decide +kernel
theorem dX8_run_41 : decode cX8_run 41 = .ok (.invokevirtual 531, 3) := by decide +kernel
theorem dX8_run_44 : decode cX8_run 44 = .ok (.i2l, 1) := by decide +kernel
theorem dX8_run_45 : decode cX8_run 45 = .ok (.lastore, 1) := by decide +kernel
theorem dX8_run_46 : decode cX8_run 46 = .ok (.aload_n 0, 1) := by decide +kernel
theorem dX8_run_47 : decode cX8_run 47 = .ok (.iconst 0, 1) := by decide +kernel
theorem dX8_run_48 : decode cX8_run 48 = .ok (.putfield 522, 3) := by decide +kernel
theorem dX8_run_51 : decode cX8_run 51 = .ok (.aload_n 0, 1) := by decide +kernel
theorem dX8_run_52 : decode cX8_run 52 = .ok (.getfield 146, 3) := by decide +kernel
theorem dX8_run_55 : decode cX8_run 55 = .ok (.iload_n 1, 1) := by decide +kernel
theorem dX8_run_56 : decode cX8_run 56 = .ok (.iconst 5, 1) := by decide +kernel
theorem dX8_run_57 : decode cX8_run 57 = .ok (.iadd, 1) := by decide +kernel
theorem dX8_run_58 : decode cX8_run 58 = .ok (.iaload, 1) := by decide +kernel
theorem dX8_run_59 : decode cX8_run 59 = .ok (.aload_n 0, 1) := by decide +kernel
theorem dX8_run_60 : decode cX8_run 60 = .ok (.getfield 146, 3) := by decide +kernel
theorem dX8_run_63 : decode cX8_run 63 = .ok (.iload_n 1, 1) := by decide +kernel
theorem dX8_run_64 : decode cX8_run 64 = .ok (.bipush 6, 2) := by decide +kernel
theorem dX8_run_66 : decode cX8_run 66 = .ok (.iadd, 1) := by decide +kernel
theorem dX8_run_67 : decode cX8_run 67 = .ok (.iaload, 1) := by decide +kernel
theorem dX8_run_68 : decode cX8_run 68 = .ok (.if_icmp .ge 24, 3) := by decide +kernel
theorem dX8_run_71 : decode cX8_run 71 = .ok (.aload_n 0, 1) := by decide +kernel
theorem dX8_run_72 : decode cX8_run 72 = .ok (.iload_n 1, 1) := by decide +kernel
theorem dX8_run_73 : decode cX8_run 73 = .ok (.iconst 5, 1) := by decide +kernel
theorem dX8_run_74 : decode cX8_run 74 = .ok (.iadd, 1) := by decide +kernel
theorem dX8_run_75 : decode cX8_run 75 = .ok (.invokevirtual 534, 3) := by decide +kernel
theorem dX8_run_78 : decode cX8_run 78 = .ok (.istore_n 2, 1) := by decide +kernel
theorem dX8_run_79 : decode cX8_run 79 = .ok (.aload_n 0, 1) := by decide +kernel
theorem dX8_run_80 : decode cX8_run 80 = .ok (.getfield 522, 3) := by decide +kernel
theorem dX8_run_83 : decode cX8_run 83 = .ok (.ifCond .ne 7, 3) := by decide +kernel
theorem dX8_run_86 : decode cX8_run 86 = .ok (.iload_n 2, 1) := by decide +kernel
theorem dX8_run_87 : decode cX8_run 87 = .ok (.ifCond .ne 5, 3) := by decide +kernel
theorem dX8_run_90 : decode cX8_run 90 = .ok (.iconst 0, 1) := by decide +kernel
theorem dX8_run_91 : decode cX8_run 91 = .ok (.ireturn, 1) := by decide +kernel
theorem dX8_run_92 : decode cX8_run 92 = .ok (.aload_n 0, 1) := by decide +kernel
theorem dX8_run_93 : decode cX8_run 93 = .ok (.iload_n 1, 1) := by decide +kernel
theorem dX8_run_94 : decode cX8_run 94 = .ok (.iconst 1, 1) := by decide +kernel
theorem dX8_run_95 : decode cX8_run 95 = .ok (.iadd, 1) := by decide +kernel
theorem dX8_run_96 : decode cX8_run 96 = .ok (.invokevirtual 534, 3) := by decide +kernel
theorem dX8_run_99 : decode cX8_run 99 = .ok (.istore_n 2, 1) := by decide +kernel
theorem dX8_run_100 : decode cX8_run 100 = .ok (.aload_n 0, 1) := by decide +kernel
theorem dX8_run_101 : decode cX8_run 101 = .ok (.iload_n 1, 1) := by decide +kernel
theorem dX8_run_102 : decode cX8_run 102 = .ok (.iconst 3, 1) := by decide +kernel
theorem dX8_run_103 : decode cX8_run 103 = .ok (.iadd, 1) := by decide +kernel
theorem dX8_run_104 : decode cX8_run 104 = .ok (.invokevirtual 534, 3) := by decide +kernel
theorem dX8_run_107 : decode cX8_run 107 = .ok (.istore_n 3, 1) := by decide +kernel
theorem dX8_run_108 : decode cX8_run 108 = .ok (.aload_n 0, 1) := by decide +kernel
theorem dX8_run_109 : decode cX8_run 109 = .ok (.getfield 522, 3) := by decide +kernel
theorem dX8_run_112 : decode cX8_run 112 = .ok (.ifCond .eq 6, 3) := by decide +kernel
theorem dX8_run_115 : decode cX8_run 115 = .ok (.bipush (-3), 2) := by decide +kernel
theorem dX8_run_117 : decode cX8_run 117 = .ok (.ireturn, 1) := by decide +kernel
theorem dX8_run_118 : decode cX8_run 118 = .ok (.aload_n 0, 1) := by decide +kernel
theorem dX8_run_119 : decode cX8_run 119 = .ok (.aload_n 0, 1) := by decide +kernel
theorem dX8_run_120 : decode cX8_run 120 = .ok (.getfield 146, 3) := by decide +kernel
theorem dX8_run_123 : decode cX8_run 123 = .ok (.iload_n 1, 1) := by decide +kernel
theorem dX8_run_124 : decode cX8_run 124 = .ok (.iaload, 1) := by decide +kernel
theorem dX8_run_125 : decode cX8_run 125 = .ok (.iload_n 2, 1) := by decide +kernel
theorem dX8_run_126 : decode cX8_run 126 = .ok (.iload_n 3, 1) := by decide +kernel
theorem dX8_run_127 : decode cX8_run 127 = .ok (.invokevirtual 537, 3) := by decide +kernel
theorem dX8_run_130 : decode cX8_run 130 = .ok (.istore 4, 2) := by decide +kernel
theorem dX8_run_132 : decode cX8_run 132 = .ok (.iload 4, 2) := by decide +kernel
theorem dX8_run_134 : decode cX8_run 134 = .ok (.ifCond .ge 6, 3) := by decide +kernel
theorem dX8_run_137 : decode cX8_run 137 = .ok (.bipush (-3), 2) := by decide +kernel
theorem dX8_run_139 : decode cX8_run 139 = .ok (.ireturn, 1) := by decide +kernel
theorem dX8_run_140 : decode cX8_run 140 = .ok (.aload_n 0, 1) := by decide +kernel
theorem dX8_run_141 : decode cX8_run 141 = .ok (.aload_n 0, 1) := by decide +kernel
theorem dX8_run_142 : decode cX8_run 142 = .ok (.getfield 146, 3) := by decide +kernel
theorem dX8_run_145 : decode cX8_run 145 = .ok (.iload_n 1, 1) := by decide +kernel
theorem dX8_run_146 : decode cX8_run 146 = .ok (.iaload, 1) := by decide +kernel
theorem dX8_run_147 : decode cX8_run 147 = .ok (.iconst 2, 1) := by decide +kernel
theorem dX8_run_148 : decode cX8_run 148 = .ok (.if_icmp .ne 8, 3) := by decide +kernel
theorem dX8_run_151 : decode cX8_run 151 = .ok (.iload 4, 2) := by decide +kernel
theorem dX8_run_153 : decode cX8_run 153 = .ok (.goto 7, 3) := by decide +kernel
theorem dX8_run_156 : decode cX8_run 156 = .ok (.aload_n 0, 1) := by decide +kernel
theorem dX8_run_157 : decode cX8_run 157 = .ok (.getfield 528, 3) := by decide +kernel
theorem dX8_run_160 : decode cX8_run 160 = .ok (.putfield 528, 3) := by decide +kernel
theorem dX8_run_163 : decode cX8_run 163 = .ok (.aload_n 0, 1) := by decide +kernel
theorem dX8_run_164 : decode cX8_run 164 = .ok (.dup, 1) := by decide +kernel
theorem dX8_run_165 : decode cX8_run 165 = .ok (.getfield 525, 3) := by decide +kernel
theorem dX8_run_168 : decode cX8_run 168 = .ok (.iconst 1, 1) := by decide +kernel
theorem dX8_run_169 : decode cX8_run 169 = .ok (.iadd, 1) := by decide +kernel
theorem dX8_run_170 : decode cX8_run 170 = .ok (.putfield 525, 3) := by decide +kernel
theorem dX8_run_173 : decode cX8_run 173 = .ok (.iconst 0, 1) := by decide +kernel
theorem dX8_run_174 : decode cX8_run 174 = .ok (.ireturn, 1) := by decide +kernel
theorem dX8_orders_0 : decode cX8_orders 0 = .ok (.aload_n 0, 1) := by decide +kernel
theorem dX8_orders_1 : decode cX8_orders 1 = .ok (.iconst 0, 1) := by decide +kernel
theorem dX8_orders_2 : decode cX8_orders 2 = .ok (.putfield 161, 3) := by decide +kernel
theorem dX8_orders_5 : decode cX8_orders 5 = .ok (.aload_n 0, 1) := by decide +kernel
theorem dX8_orders_6 : decode cX8_orders 6 = .ok (.iconst (-1), 1) := by decide +kernel
theorem dX8_orders_7 : decode cX8_orders 7 = .ok (.putfield 149, 3) := by decide +kernel
theorem dX8_orders_10 : decode cX8_orders 10 = .ok (.aload_n 0, 1) := by decide +kernel
theorem dX8_orders_11 : decode cX8_orders 11 = .ok (.iconst 1, 1) := by decide +kernel
theorem dX8_orders_12 : decode cX8_orders 12 = .ok (.invokevirtual 389, 3) := by decide +kernel
theorem dX8_orders_15 : decode cX8_orders 15 = .ok (.aload_n 0, 1) := by decide +kernel
theorem dX8_orders_16 : decode cX8_orders 16 = .ok (.invokevirtual 541, 3) := by decide +kernel
theorem dX8_orders_19 : decode cX8_orders 19 = .ok (.aload_n 0, 1) := by decide +kernel
theorem dX8_orders_20 : decode cX8_orders 20 = .ok (.getfield 250, 3) := by decide +kernel
theorem dX8_orders_23 : decode cX8_orders 23 = .ok (.ifCond .ne 23, 3) := by decide +kernel
theorem dX8_orders_26 : decode cX8_orders 26 = .ok (.aload_n 0, 1) := by decide +kernel
theorem dX8_orders_27 : decode cX8_orders 27 = .ok (.bipush 59, 2) := by decide +kernel
theorem dX8_orders_29 : decode cX8_orders 29 = .ok (.invokevirtual 321, 3) := by decide +kernel
theorem dX8_orders_32 : decode cX8_orders 32 = .ok (.ifCond .eq 14, 3) := by decide +kernel
theorem dX8_orders_35 : decode cX8_orders 35 = .ok (.aload_n 0, 1) := by decide +kernel
theorem dX8_orders_36 : decode cX8_orders 36 = .ok (.invokevirtual 254, 3) := by decide +kernel
theorem dX8_orders_39 : decode cX8_orders 39 = .ok (.aload_n 0, 1) := by decide +kernel
theorem dX8_orders_40 : decode cX8_orders 40 = .ok (.invokevirtual 541, 3) := by decide +kernel
theorem dX8_orders_43 : decode cX8_orders 43 = .ok (.goto (-24), 3) := by decide +kernel
theorem dX8_orders_46 : decode cX8_orders 46 = .ok (.aload_n 0, 1) := by decide +kernel
theorem dX8_orders_47 : decode cX8_orders 47 = .ok (.invokevirtual 395, 3) := by decide +kernel
theorem dX8_orders_50 : decode cX8_orders 50 = .ok (.aload_n 0, 1) := by decide +kernel
theorem dX8_orders_51 : decode cX8_orders 51 = .ok (.getfield 250, 3) := by decide +kernel
theorem dX8_orders_54 : decode cX8_orders 54 = .ok (.ifCond .eq 10, 3) := by decide +kernel
theorem dX8_orders_57 : decode cX8_orders 57 = .ok (.aload_n 0, 1) := by decide +kernel
theorem dX8_orders_58 : decode cX8_orders 58 = .ok (.bipush (-6), 2) := by decide +kernel
theorem dX8_orders_60 : decode cX8_orders 60 = .ok (.invokevirtual 170, 3) := by decide +kernel
theorem dX8_orders_63 : decode cX8_orders 63 = .ok (.ireturn, 1) := by decide +kernel
theorem dX8_orders_64 : decode cX8_orders 64 = .ok (.aload_n 0, 1) := by decide +kernel
theorem dX8_orders_65 : decode cX8_orders 65 = .ok (.bipush 17, 2) := by decide +kernel
theorem dX8_orders_67 : decode cX8_orders 67 = .ok (.invokevirtual 174, 3) := by decide +kernel
theorem dX8_orders_70 : decode cX8_orders 70 = .ok (.aload_n 0, 1) := by decide +kernel
theorem dX8_orders_71 : decode cX8_orders 71 = .ok (.getfield 167, 3) := by decide +kernel
theorem dX8_orders_74 : decode cX8_orders 74 = .ok (.istore_n 1, 1) := by decide +kernel
theorem dX8_orders_75 : decode cX8_orders 75 = .ok (.iconst 0, 1) := by decide +kernel
theorem dX8_orders_76 : decode cX8_orders 76 = .ok (.istore_n 2, 1) := by decide +kernel
theorem dX8_orders_77 : decode cX8_orders 77 = .ok (.iload_n 2, 1) := by decide +kernel
theorem dX8_orders_78 : decode cX8_orders 78 = .ok (.sipush 944, 3) := by decide +kernel
theorem dX8_orders_81 : decode cX8_orders 81 = .ok (.if_icmp .ge 21, 3) := by decide +kernel
theorem dX8_orders_84 : decode cX8_orders 84 = .ok (.aload_n 0, 1) := by decide +kernel
theorem dX8_orders_85 : decode cX8_orders 85 = .ok (.getfield 29, 3) := by decide +kernel
theorem dX8_orders_88 : decode cX8_orders 88 = .ok (.iload_n 2, 1) := by decide +kernel
theorem dX8_orders_89 : decode cX8_orders 89 = .ok (.aload_n 0, 1) := by decide +kernel
theorem dX8_orders_90 : decode cX8_orders 90 = .ok (.getfield 23, 3) := by decide +kernel
theorem dX8_orders_93 : decode cX8_orders 93 = .ok (.iload_n 2, 1) := by decide +kernel
theorem dX8_orders_94 : decode cX8_orders 94 = .ok (.iaload, 1) := by decide +kernel
theorem dX8_orders_95 : decode cX8_orders 95 = .ok (.iastore, 1) := by decide +kernel
theorem dX8_orders_96 : decode cX8_orders 96 = .ok (.iinc 2 1, 3) := by decide +kernel
theorem dX8_orders_99 : decode cX8_orders 99 = .ok (.goto (-22), 3) := by decide +kernel
theorem dX8_orders_102 : decode cX8_orders 102 = .ok (.iconst 0, 1) := by decide +kernel
theorem dX8_orders_103 : decode cX8_orders 103 = .ok (.istore_n 2, 1) := by decide +kernel
theorem dX8_orders_104 : decode cX8_orders 104 = .ok (.iload_n 2, 1) := by decide +kernel
theorem dX8_orders_105 : decode cX8_orders 105 = .ok (.bipush 16, 2) := by decide +kernel
theorem dX8_orders_107 : decode cX8_orders 107 = .ok (.if_icmp .ge 21, 3) := by decide +kernel
theorem dX8_orders_110 : decode cX8_orders 110 = .ok (.aload_n 0, 1) := by decide +kernel
theorem dX8_orders_111 : decode cX8_orders 111 = .ok (.getfield 32, 3) := by decide +kernel
theorem dX8_orders_114 : decode cX8_orders 114 = .ok (.iload_n 2, 1) := by decide +kernel
theorem dX8_orders_115 : decode cX8_orders 115 = .ok (.aload_n 0, 1) := by decide +kernel
theorem dX8_orders_116 : decode cX8_orders 116 = .ok (.getfield 26, 3) := by decide +kernel
theorem dX8_orders_119 : decode cX8_orders 119 = .ok (.iload_n 2, 1) := by decide +kernel
theorem dX8_orders_120 : decode cX8_orders 120 = .ok (.iaload, 1) := by decide +kernel
theorem dX8_orders_121 : decode cX8_orders 121 = .ok (.iastore, 1) := by decide +kernel
theorem dX8_orders_122 : decode cX8_orders 122 = .ok (.iinc 2 1, 3) := by decide +kernel
theorem dX8_orders_125 : decode cX8_orders 125 = .ok (.goto (-21), 3) := by decide +kernel
theorem dX8_orders_128 : decode cX8_orders 128 = .ok (.aload_n 0, 1) := by decide +kernel
theorem dX8_orders_129 : decode cX8_orders 129 = .ok (.iconst 0, 1) := by decide +kernel
theorem dX8_orders_130 : decode cX8_orders 130 = .ok (.putfield 525, 3) := by decide +kernel
theorem dX8_orders_133 : decode cX8_orders 133 = .ok (.aload_n 0, 1) := by decide +kernel
theorem dX8_orders_134 : decode cX8_orders 134 = .ok (.iconst (-1), 1) := by decide +kernel
theorem dX8_orders_135 : decode cX8_orders 135 = .ok (.putfield 528, 3) := by decide +kernel
theorem dX8_orders_138 : decode cX8_orders 138 = .ok (.iconst 0, 1) := by decide +kernel
theorem dX8_orders_139 : decode cX8_orders 139 = .ok (.istore_n 2, 1) := by decide +kernel
theorem dX8_orders_140 : decode cX8_orders 140 = .ok (.iload_n 2, 1) := by decide +kernel
theorem dX8_orders_141 : decode cX8_orders 141 = .ok (.aload_n 0, 1) := by decide +kernel
theorem dX8_orders_142 : decode cX8_orders 142 = .ok (.getfield 381, 3) := by decide +kernel
theorem dX8_orders_145 : decode cX8_orders 145 = .ok (.if_icmp .ge 61, 3) := by decide +kernel
theorem dX8_orders_148 : decode cX8_orders 148 = .ok (.iconst 0, 1) := by decide +kernel
theorem dX8_orders_149 : decode cX8_orders 149 = .ok (.istore_n 3, 1) := by decide +kernel
theorem dX8_orders_150 : decode cX8_orders 150 = .ok (.iload_n 3, 1) := by decide +kernel
theorem dX8_orders_151 : decode cX8_orders 151 = .ok (.aload_n 0, 1) := by decide +kernel
theorem dX8_orders_152 : decode cX8_orders 152 = .ok (.getfield 146, 3) := by decide +kernel
theorem dX8_orders_155 : decode cX8_orders 155 = .ok (.bipush 8, 2) := by decide +kernel
theorem dX8_orders_157 : decode cX8_orders 157 = .ok (.iload_n 2, 1) := by decide +kernel
theorem dX8_orders_158 : decode cX8_orders 158 = .ok (.imul, 1) := by decide +kernel
theorem dX8_orders_159 : decode cX8_orders 159 = .ok (.bipush 7, 2) := by decide +kernel
theorem dX8_orders_161 : decode cX8_orders 161 = .ok (.iadd, 1) := by decide +kernel
theorem dX8_orders_162 : decode cX8_orders 162 = .ok (.iaload, 1) := by decide +kernel
theorem dX8_orders_163 : decode cX8_orders 163 = .ok (.if_icmp .ge 37, 3) := by decide +kernel
theorem dX8_orders_166 : decode cX8_orders 166 = .ok (.aload_n 0, 1) := by decide +kernel
theorem dX8_orders_167 : decode cX8_orders 167 = .ok (.bipush 8, 2) := by decide +kernel
theorem dX8_orders_169 : decode cX8_orders 169 = .ok (.iload_n 2, 1) := by decide +kernel
theorem dX8_orders_170 : decode cX8_orders 170 = .ok (.imul, 1) := by decide +kernel
theorem dX8_orders_171 : decode cX8_orders 171 = .ok (.invokevirtual 544, 3) := by decide +kernel
theorem dX8_orders_174 : decode cX8_orders 174 = .ok (.ifCond .ge 20, 3) := by decide +kernel
theorem dX8_orders_177 : decode cX8_orders 177 = .ok (.aload_n 0, 1) := by decide +kernel
theorem dX8_orders_178 : decode cX8_orders 178 = .ok (.iload_n 1, 1) := by decide +kernel
theorem dX8_orders_179 : decode cX8_orders 179 = .ok (.invokevirtual 547, 3) := by decide +kernel
theorem dX8_orders_182 : decode cX8_orders 182 = .ok (.aload_n 0, 1) := by decide +kernel
theorem dX8_orders_183 : decode cX8_orders 183 = .ok (.iload_n 2, 1) := by decide +kernel
theorem dX8_orders_184 : decode cX8_orders 184 = .ok (.putfield 149, 3) := by decide +kernel
theorem dX8_orders_187 : decode cX8_orders 187 = .ok (.aload_n 0, 1) := by decide +kernel
theorem dX8_orders_188 : decode cX8_orders 188 = .ok (.bipush (-3), 2) := by decide +kernel
theorem dX8_orders_190 : decode cX8_orders 190 = .ok (.invokevirtual 170, 3) := by decide +kernel
theorem dX8_orders_193 : decode cX8_orders 193 = .ok (.ireturn, 1) := by decide +kernel
theorem dX8_orders_194 : decode cX8_orders 194 = .ok (.iinc 3 1, 3) := by decide +kernel
theorem dX8_orders_197 : decode cX8_orders 197 = .ok (.goto (-47), 3) := by decide +kernel
theorem dX8_orders_200 : decode cX8_orders 200 = .ok (.iinc 2 1, 3) := by decide +kernel
theorem dX8_orders_203 : decode cX8_orders 203 = .ok (.goto (-63), 3) := by decide +kernel
theorem dX8_orders_206 : decode cX8_orders 206 = .ok (.aload_n 0, 1) := by decide +kernel
theorem dX8_orders_207 : decode cX8_orders 207 = .ok (.aload_n 0, 1) := by decide +kernel
theorem dX8_orders_208 : decode cX8_orders 208 = .ok (.getfield 525, 3) := by decide +kernel
theorem dX8_orders_211 : decode cX8_orders 211 = .ok (.invokevirtual 170, 3) := by decide +kernel
theorem dX8_orders_214 : decode cX8_orders 214 = .ok (.ireturn, 1) := by decide +kernel
theorem dX8_giveBack_0 : decode cX8_giveBack 0 = .ok (.aload_n 0, 1) := by decide +kernel
theorem dX8_giveBack_1 : decode cX8_giveBack 1 = .ok (.bipush 17, 2) := by decide +kernel
theorem dX8_giveBack_3 : decode cX8_giveBack 3 = .ok (.invokevirtual 178, 3) := by decide +kernel
theorem dX8_giveBack_6 : decode cX8_giveBack 6 = .ok (.iconst 0, 1) := by decide +kernel
theorem dX8_giveBack_7 : decode cX8_giveBack 7 = .ok (.istore_n 2, 1) := by decide +kernel
theorem dX8_giveBack_8 : decode cX8_giveBack 8 = .ok (.iload_n 2, 1) := by decide +kernel
theorem dX8_giveBack_9 : decode cX8_giveBack 9 = .ok (.sipush 944, 3) := by decide +kernel
theorem dX8_giveBack_12 : decode cX8_giveBack 12 = .ok (.if_icmp .ge 21, 3) := by decide +kernel
theorem dX8_giveBack_15 : decode cX8_giveBack 15 = .ok (.aload_n 0, 1) := by decide +kernel
theorem dX8_giveBack_16 : decode cX8_giveBack 16 = .ok (.getfield 23, 3) := by decide +kernel
theorem dX8_giveBack_19 : decode cX8_giveBack 19 = .ok (.iload_n 2, 1) := by decide +kernel
theorem dX8_giveBack_20 : decode cX8_giveBack 20 = .ok (.aload_n 0, 1) := by decide +kernel
theorem dX8_giveBack_21 : decode cX8_giveBack 21 = .ok (.getfield 29, 3) := by decide +kernel
theorem dX8_giveBack_24 : decode cX8_giveBack 24 = .ok (.iload_n 2, 1) := by decide +kernel
theorem dX8_giveBack_25 : decode cX8_giveBack 25 = .ok (.iaload, 1) := by decide +kernel
theorem dX8_giveBack_26 : decode cX8_giveBack 26 = .ok (.iastore, 1) := by decide +kernel
theorem dX8_giveBack_27 : decode cX8_giveBack 27 = .ok (.iinc 2 1, 3) := by decide +kernel
theorem dX8_giveBack_30 : decode cX8_giveBack 30 = .ok (.goto (-22), 3) := by decide +kernel
theorem dX8_giveBack_33 : decode cX8_giveBack 33 = .ok (.iconst 0, 1) := by decide +kernel
theorem dX8_giveBack_34 : decode cX8_giveBack 34 = .ok (.istore_n 2, 1) := by decide +kernel
theorem dX8_giveBack_35 : decode cX8_giveBack 35 = .ok (.iload_n 2, 1) := by decide +kernel
theorem dX8_giveBack_36 : decode cX8_giveBack 36 = .ok (.bipush 16, 2) := by decide +kernel
theorem dX8_giveBack_38 : decode cX8_giveBack 38 = .ok (.if_icmp .ge 21, 3) := by decide +kernel
theorem dX8_giveBack_41 : decode cX8_giveBack 41 = .ok (.aload_n 0, 1) := by decide +kernel
theorem dX8_giveBack_42 : decode cX8_giveBack 42 = .ok (.getfield 26, 3) := by decide +kernel
theorem dX8_giveBack_45 : decode cX8_giveBack 45 = .ok (.iload_n 2, 1) := by decide +kernel
theorem dX8_giveBack_46 : decode cX8_giveBack 46 = .ok (.aload_n 0, 1) := by decide +kernel
theorem dX8_giveBack_47 : decode cX8_giveBack 47 = .ok (.getfield 32, 3) := by decide +kernel
theorem dX8_giveBack_50 : decode cX8_giveBack 50 = .ok (.iload_n 2, 1) := by decide +kernel
theorem dX8_giveBack_51 : decode cX8_giveBack 51 = .ok (.iaload, 1) := by decide +kernel
theorem dX8_giveBack_52 : decode cX8_giveBack 52 = .ok (.iastore, 1) := by decide +kernel
theorem dX8_giveBack_53 : decode cX8_giveBack 53 = .ok (.iinc 2 1, 3) := by decide +kernel
theorem dX8_giveBack_56 : decode cX8_giveBack 56 = .ok (.goto (-21), 3) := by decide +kernel
theorem dX8_giveBack_59 : decode cX8_giveBack 59 = .ok (.aload_n 0, 1) := by decide +kernel
theorem dX8_giveBack_60 : decode cX8_giveBack 60 = .ok (.iload_n 1, 1) := by decide +kernel
theorem dX8_giveBack_61 : decode cX8_giveBack 61 = .ok (.putfield 167, 3) := by decide +kernel
theorem dX8_giveBack_64 : decode cX8_giveBack 64 = .ok (.return_, 1) := by decide +kernel
theorem dX8_stopped_0 : decode cX8_stopped 0 = .ok (.aload_n 0, 1) := by decide +kernel
theorem dX8_stopped_1 : decode cX8_stopped 1 = .ok (.iconst 0, 1) := by decide +kernel
theorem dX8_stopped_2 : decode cX8_stopped 2 = .ok (.putfield 161, 3) := by decide +kernel
theorem dX8_stopped_5 : decode cX8_stopped 5 = .ok (.aload_n 0, 1) := by decide +kernel
theorem dX8_stopped_6 : decode cX8_stopped 6 = .ok (.getfield 149, 3) := by decide +kernel
theorem dX8_stopped_9 : decode cX8_stopped 9 = .ok (.ireturn, 1) := by decide +kernel
theorem dX8_draw_0 : decode cX8_draw 0 = .ok (.aload_n 0, 1) := by decide +kernel
theorem dX8_draw_1 : decode cX8_draw 1 = .ok (.aload_n 0, 1) := by decide +kernel
theorem dX8_draw_2 : decode cX8_draw 2 = .ok (.getfield 550, 3) := by decide +kernel
theorem dX8_draw_5 : decode cX8_draw 5 = .ok (.ldc2_w 553, 3) := by decide +kernel
theorem dX8_draw_8 : decode cX8_draw 8 = .ok (.lmul, 1) := by decide +kernel
theorem dX8_draw_9 : decode cX8_draw 9 = .ok (.ldc2_w 555, 3) := by decide +kernel
theorem dX8_draw_12 : decode cX8_draw 12 = .ok (.ladd, 1) := by decide +kernel
theorem dX8_draw_13 : decode cX8_draw 13 = .ok (.ldc2_w 557, 3) := by decide +kernel
theorem dX8_draw_16 : decode cX8_draw 16 = .ok (.lrem, 1) := by decide +kernel
theorem dX8_draw_17 : decode cX8_draw 17 = .ok (.putfield 550, 3) := by decide +kernel
theorem dX8_draw_20 : decode cX8_draw 20 = .ok (.aload_n 0, 1) := by decide +kernel
theorem dX8_draw_21 : decode cX8_draw 21 = .ok (.getfield 550, 3) := by decide +kernel
theorem dX8_draw_24 : decode cX8_draw 24 = .ok (.iload_n 1, 1) := by decide +kernel
theorem dX8_draw_25 : decode cX8_draw 25 = .ok (.i2l, 1) := by decide +kernel
theorem dX8_draw_26 : decode cX8_draw 26 = .ok (.lrem, 1) := by decide +kernel
theorem dX8_draw_27 : decode cX8_draw 27 = .ok (.l2i, 1) := by decide +kernel
theorem dX8_draw_28 : decode cX8_draw 28 = .ok (.ireturn, 1) := by decide +kernel
theorem dX8_summers_0 : decode cX8_summers 0 = .ok (.aload_n 0, 1) := by decide +kernel
theorem dX8_summers_1 : decode cX8_summers 1 = .ok (.iconst 0, 1) := by decide +kernel
theorem dX8_summers_2 : decode cX8_summers 2 = .ok (.putfield 161, 3) := by decide +kernel
theorem dX8_summers_5 : decode cX8_summers 5 = .ok (.iload_n 1, 1) := by decide +kernel
theorem dX8_summers_6 : decode cX8_summers 6 = .ok (.i2l, 1) := by decide +kernel
theorem dX8_summers_7 : decode cX8_summers 7 = .ok (.lconst 0, 1) := by decide +kernel
theorem dX8_summers_8 : decode cX8_summers 8 = .ok (.ldc2_w 279, 3) := by decide +kernel
theorem dX8_summers_11 : decode cX8_summers 11 = .ok (.invokestatic 181, 3) := by decide +kernel
theorem dX8_summers_14 : decode cX8_summers 14 = .ok (.ifCond .eq 15, 3) := by decide +kernel
theorem dX8_summers_17 : decode cX8_summers 17 = .ok (.iload_n 2, 1) := by decide +kernel
theorem dX8_summers_18 : decode cX8_summers 18 = .ok (.i2l, 1) := by decide +kernel
theorem dX8_summers_19 : decode cX8_summers 19 = .ok (.lconst 1, 1) := by decide +kernel
theorem dX8_summers_20 : decode cX8_summers 20 = .ok (.ldc2_w 507, 3) := by decide +kernel
theorem dX8_summers_23 : decode cX8_summers 23 = .ok (.invokestatic 181, 3) := by decide +kernel
theorem dX8_summers_26 : decode cX8_summers 26 = .ok (.ifCond .ne 9, 3) := by decide +kernel
theorem dX8_summers_29 : decode cX8_summers 29 = .ok (.aload_n 0, 1) := by decide +kernel
theorem dX8_summers_30 : decode cX8_summers 30 = .ok (.iconst (-1), 1) := by decide +kernel
theorem dX8_summers_31 : decode cX8_summers 31 = .ok (.invokevirtual 170, 3) := by decide +kernel
theorem dX8_summers_34 : decode cX8_summers 34 = .ok (.ireturn, 1) := by decide +kernel
theorem dX8_summers_35 : decode cX8_summers 35 = .ok (.aload_n 0, 1) := by decide +kernel
theorem dX8_summers_36 : decode cX8_summers 36 = .ok (.bipush 16, 2) := by decide +kernel
theorem dX8_summers_38 : decode cX8_summers 38 = .ok (.invokevirtual 174, 3) := by decide +kernel
theorem dX8_summers_41 : decode cX8_summers 41 = .ok (.aload_n 0, 1) := by decide +kernel
theorem dX8_summers_42 : decode cX8_summers 42 = .ok (.iload_n 1, 1) := by decide +kernel
theorem dX8_summers_43 : decode cX8_summers 43 = .ok (.i2l, 1) := by decide +kernel
theorem dX8_summers_44 : decode cX8_summers 44 = .ok (.putfield 550, 3) := by decide +kernel
theorem dX8_summers_47 : decode cX8_summers 47 = .ok (.iconst 0, 1) := by decide +kernel
theorem dX8_summers_48 : decode cX8_summers 48 = .ok (.istore_n 3, 1) := by decide +kernel
theorem dX8_summers_49 : decode cX8_summers 49 = .ok (.iconst 0, 1) := by decide +kernel
theorem dX8_summers_50 : decode cX8_summers 50 = .ok (.istore 4, 2) := by decide +kernel
theorem dX8_summers_52 : decode cX8_summers 52 = .ok (.iload 4, 2) := by decide +kernel
theorem dX8_summers_54 : decode cX8_summers 54 = .ok (.iload_n 2, 1) := by decide +kernel
theorem dX8_summers_55 : decode cX8_summers 55 = .ok (.if_icmp .ge 98, 3) := by decide +kernel
theorem dX8_summers_58 : decode cX8_summers 58 = .ok (.aload_n 0, 1) := by decide +kernel
theorem dX8_summers_59 : decode cX8_summers 59 = .ok (.getfield 13, 3) := by decide +kernel
theorem dX8_summers_62 : decode cX8_summers 62 = .ok (.iconst 5, 1) := by decide +kernel
theorem dX8_summers_63 : decode cX8_summers 63 = .ok (.iaload, 1) := by decide +kernel
theorem dX8_summers_64 : decode cX8_summers 64 = .ok (.sipush 999, 3) := by decide +kernel
theorem dX8_summers_67 : decode cX8_summers 67 = .ok (.if_icmp .ge 86, 3) := by decide +kernel
theorem dX8_summers_70 : decode cX8_summers 70 = .ok (.iconst 0, 1) := by decide +kernel
theorem dX8_summers_71 : decode cX8_summers 71 = .ok (.istore 5, 2) := by decide +kernel
theorem dX8_summers_73 : decode cX8_summers 73 = .ok (.iload 5, 2) := by decide +kernel
theorem dX8_summers_75 : decode cX8_summers 75 = .ok (.aload_n 0, 1) := by decide +kernel
theorem dX8_summers_76 : decode cX8_summers 76 = .ok (.getfield 13, 3) := by decide +kernel
theorem dX8_summers_79 : decode cX8_summers 79 = .ok (.iconst 1, 1) := by decide +kernel
theorem dX8_summers_80 : decode cX8_summers 80 = .ok (.iaload, 1) := by decide +kernel
theorem dX8_summers_81 : decode cX8_summers 81 = .ok (.if_icmp .ge 59, 3) := by decide +kernel
theorem dX8_summers_84 : decode cX8_summers 84 = .ok (.aload_n 0, 1) := by decide +kernel
theorem dX8_summers_85 : decode cX8_summers 85 = .ok (.iload 5, 2) := by decide +kernel
theorem dX8_summers_87 : decode cX8_summers 87 = .ok (.invokevirtual 441, 3) := by decide +kernel
theorem dX8_summers_90 : decode cX8_summers 90 = .ok (.ifCond .eq 44, 3) := by decide +kernel
theorem dX8_summers_93 : decode cX8_summers 93 = .ok (.aload_n 0, 1) := by decide +kernel
theorem dX8_summers_94 : decode cX8_summers 94 = .ok (.iload 5, 2) := by decide +kernel
theorem dX8_summers_96 : decode cX8_summers 96 = .ok (.invokevirtual 450, 3) := by decide +kernel
theorem dX8_summers_99 : decode cX8_summers 99 = .ok (.pop, 1) := by decide +kernel
theorem dX8_summers_100 : decode cX8_summers 100 = .ok (.aload_n 0, 1) := by decide +kernel
theorem dX8_summers_101 : decode cX8_summers 101 = .ok (.bipush 10, 2) := by decide +kernel
theorem dX8_summers_103 : decode cX8_summers 103 = .ok (.invokevirtual 559, 3) := by decide +kernel
theorem dX8_summers_106 : decode cX8_summers 106 = .ok (.aload_n 0, 1) := by decide +kernel
theorem dX8_summers_107 : decode cX8_summers 107 = .ok (.iload 5, 2) := by decide +kernel
theorem dX8_summers_109 : decode cX8_summers 109 = .ok (.aload_n 0, 1) := by decide +kernel
theorem dX8_summers_110 : decode cX8_summers 110 = .ok (.getfield 13, 3) := by decide +kernel
theorem dX8_summers_113 : decode cX8_summers 113 = .ok (.bipush 15, 2) := by decide +kernel
theorem dX8_summers_115 : decode cX8_summers 115 = .ok (.iload 5, 2) := by decide +kernel
theorem dX8_summers_117 : decode cX8_summers 117 = .ok (.iadd, 1) := by decide +kernel
theorem dX8_summers_118 : decode cX8_summers 118 = .ok (.iaload, 1) := by decide +kernel
theorem dX8_summers_119 : decode cX8_summers 119 = .ok (.invokevirtual 233, 3) := by decide +kernel
theorem dX8_summers_122 : decode cX8_summers 122 = .ok (.if_icmp .ge 12, 3) := by decide +kernel
theorem dX8_summers_125 : decode cX8_summers 125 = .ok (.aload_n 0, 1) := by decide +kernel
theorem dX8_summers_126 : decode cX8_summers 126 = .ok (.iload 5, 2) := by decide +kernel
theorem dX8_summers_128 : decode cX8_summers 128 = .ok (.invokevirtual 459, 3) := by decide +kernel
theorem dX8_summers_131 : decode cX8_summers 131 = .ok (.iinc 3 1, 3) := by decide +kernel
theorem dX8_summers_134 : decode cX8_summers 134 = .ok (.iinc 5 1, 3) := by decide +kernel
theorem dX8_summers_137 : decode cX8_summers 137 = .ok (.goto (-64), 3) := by decide +kernel
theorem dX8_summers_140 : decode cX8_summers 140 = .ok (.iload_n 3, 1) := by decide +kernel
theorem dX8_summers_141 : decode cX8_summers 141 = .ok (.aload_n 0, 1) := by decide +kernel
theorem dX8_summers_142 : decode cX8_summers 142 = .ok (.invokevirtual 462, 3) := by decide +kernel
theorem dX8_summers_145 : decode cX8_summers 145 = .ok (.iadd, 1) := by decide +kernel
theorem dX8_summers_146 : decode cX8_summers 146 = .ok (.istore_n 3, 1) := by decide +kernel
theorem dX8_summers_147 : decode cX8_summers 147 = .ok (.iinc 4 1, 3) := by decide +kernel
theorem dX8_summers_150 : decode cX8_summers 150 = .ok (.goto (-98), 3) := by decide +kernel
theorem dX8_summers_153 : decode cX8_summers 153 = .ok (.aload_n 0, 1) := by decide +kernel
theorem dX8_summers_154 : decode cX8_summers 154 = .ok (.aload_n 0, 1) := by decide +kernel
theorem dX8_summers_155 : decode cX8_summers 155 = .ok (.getfield 13, 3) := by decide +kernel
theorem dX8_summers_158 : decode cX8_summers 158 = .ok (.iconst 1, 1) := by decide +kernel
theorem dX8_summers_159 : decode cX8_summers 159 = .ok (.iaload, 1) := by decide +kernel
theorem dX8_summers_160 : decode cX8_summers 160 = .ok (.putfield 158, 3) := by decide +kernel
theorem dX8_summers_163 : decode cX8_summers 163 = .ok (.iconst 0, 1) := by decide +kernel
theorem dX8_summers_164 : decode cX8_summers 164 = .ok (.istore 4, 2) := by decide +kernel
theorem dX8_summers_166 : decode cX8_summers 166 = .ok (.iload 4, 2) := by decide +kernel
theorem dX8_summers_168 : decode cX8_summers 168 = .ok (.aload_n 0, 1) := by decide +kernel
theorem dX8_summers_169 : decode cX8_summers 169 = .ok (.getfield 158, 3) := by decide +kernel
theorem dX8_summers_172 : decode cX8_summers 172 = .ok (.if_icmp .ge 49, 3) := by decide +kernel
theorem dX8_summers_175 : decode cX8_summers 175 = .ok (.aload_n 0, 1) := by decide +kernel
theorem dX8_summers_176 : decode cX8_summers 176 = .ok (.getfield 152, 3) := by decide +kernel
theorem dX8_summers_179 : decode cX8_summers 179 = .ok (.iconst 2, 1) := by decide +kernel
theorem dX8_summers_180 : decode cX8_summers 180 = .ok (.iload 4, 2) := by decide +kernel
theorem dX8_summers_182 : decode cX8_summers 182 = .ok (.imul, 1) := by decide +kernel
theorem dX8_summers_183 : decode cX8_summers 183 = .ok (.aload_n 0, 1) := by decide +kernel
theorem dX8_summers_184 : decode cX8_summers 184 = .ok (.getfield 13, 3) := by decide +kernel
theorem dX8_summers_187 : decode cX8_summers 187 = .ok (.bipush 15, 2) := by decide +kernel
theorem dX8_summers_189 : decode cX8_summers 189 = .ok (.iload 4, 2) := by decide +kernel
theorem dX8_summers_191 : decode cX8_summers 191 = .ok (.iadd, 1) := by decide +kernel
theorem dX8_summers_192 : decode cX8_summers 192 = .ok (.iaload, 1) := by decide +kernel
theorem dX8_summers_193 : decode cX8_summers 193 = .ok (.iastore, 1) := by decide +kernel
theorem dX8_summers_194 : decode cX8_summers 194 = .ok (.aload_n 0, 1) := by decide +kernel
theorem dX8_summers_195 : decode cX8_summers 195 = .ok (.getfield 152, 3) := by decide +kernel
theorem dX8_summers_198 : decode cX8_summers 198 = .ok (.iconst 2, 1) := by decide +kernel
theorem dX8_summers_199 : decode cX8_summers 199 = .ok (.iload 4, 2) := by decide +kernel
theorem dX8_summers_201 : decode cX8_summers 201 = .ok (.imul, 1) := by decide +kernel
theorem dX8_summers_202 : decode cX8_summers 202 = .ok (.iconst 1, 1) := by decide +kernel
theorem dX8_summers_203 : decode cX8_summers 203 = .ok (.iadd, 1) := by decide +kernel
theorem dX8_summers_204 : decode cX8_summers 204 = .ok (.aload_n 0, 1) := by decide +kernel
theorem dX8_summers_205 : decode cX8_summers 205 = .ok (.getfield 13, 3) := by decide +kernel
theorem dX8_summers_208 : decode cX8_summers 208 = .ok (.bipush 23, 2) := by decide +kernel
theorem dX8_summers_210 : decode cX8_summers 210 = .ok (.iload 4, 2) := by decide +kernel
theorem dX8_summers_212 : decode cX8_summers 212 = .ok (.iadd, 1) := by decide +kernel
theorem dX8_summers_213 : decode cX8_summers 213 = .ok (.iaload, 1) := by decide +kernel
theorem dX8_summers_214 : decode cX8_summers 214 = .ok (.iastore, 1) := by decide +kernel
theorem dX8_summers_215 : decode cX8_summers 215 = .ok (.iinc 4 1, 3) := by decide +kernel
theorem dX8_summers_218 : decode cX8_summers 218 = .ok (.goto (-52), 3) := by decide +kernel
theorem dX8_summers_221 : decode cX8_summers 221 = .ok (.iconst 0, 1) := by decide +kernel
theorem dX8_summers_222 : decode cX8_summers 222 = .ok (.istore 4, 2) := by decide +kernel
theorem dX8_summers_224 : decode cX8_summers 224 = .ok (.iload 4, 2) := by decide +kernel
theorem dX8_summers_226 : decode cX8_summers 226 = .ok (.bipush 25, 2) := by decide +kernel
theorem dX8_summers_228 : decode cX8_summers 228 = .ok (.if_icmp .ge 26, 3) := by decide +kernel
theorem dX8_summers_231 : decode cX8_summers 231 = .ok (.aload_n 0, 1) := by decide +kernel
theorem dX8_summers_232 : decode cX8_summers 232 = .ok (.getfield 155, 3) := by decide +kernel
theorem dX8_summers_235 : decode cX8_summers 235 = .ok (.iload 4, 2) := by decide +kernel
theorem dX8_summers_237 : decode cX8_summers 237 = .ok (.aload_n 0, 1) := by decide +kernel
theorem dX8_summers_238 : decode cX8_summers 238 = .ok (.getfield 13, 3) := by decide +kernel
theorem dX8_summers_241 : decode cX8_summers 241 = .ok (.bipush 39, 2) := by decide +kernel
theorem dX8_summers_243 : decode cX8_summers 243 = .ok (.iload 4, 2) := by decide +kernel
theorem dX8_summers_245 : decode cX8_summers 245 = .ok (.iadd, 1) := by decide +kernel
theorem dX8_summers_246 : decode cX8_summers 246 = .ok (.iaload, 1) := by decide +kernel
theorem dX8_summers_247 : decode cX8_summers 247 = .ok (.iastore, 1) := by decide +kernel
theorem dX8_summers_248 : decode cX8_summers 248 = .ok (.iinc 4 1, 3) := by decide +kernel
theorem dX8_summers_251 : decode cX8_summers 251 = .ok (.goto (-27), 3) := by decide +kernel
theorem dX8_summers_254 : decode cX8_summers 254 = .ok (.aload_n 0, 1) := by decide +kernel
theorem dX8_summers_255 : decode cX8_summers 255 = .ok (.bipush 16, 2) := by decide +kernel
theorem dX8_summers_257 : decode cX8_summers 257 = .ok (.invokevirtual 178, 3) := by decide +kernel
theorem dX8_summers_260 : decode cX8_summers 260 = .ok (.aload_n 0, 1) := by decide +kernel
theorem dX8_summers_261 : decode cX8_summers 261 = .ok (.iload_n 3, 1) := by decide +kernel
theorem dX8_summers_262 : decode cX8_summers 262 = .ok (.invokevirtual 170, 3) := by decide +kernel
theorem dX8_summers_265 : decode cX8_summers 265 = .ok (.ireturn, 1) := by decide +kernel
theorem dX8_drawn_0 : decode cX8_drawn 0 = .ok (.aload_n 0, 1) := by decide +kernel
theorem dX8_drawn_1 : decode cX8_drawn 1 = .ok (.iconst 0, 1) := by decide +kernel
theorem dX8_drawn_2 : decode cX8_drawn 2 = .ok (.putfield 161, 3) := by decide +kernel
theorem dX8_drawn_5 : decode cX8_drawn 5 = .ok (.aload_n 0, 1) := by decide +kernel
theorem dX8_drawn_6 : decode cX8_drawn 6 = .ok (.getfield 158, 3) := by decide +kernel
theorem dX8_drawn_9 : decode cX8_drawn 9 = .ok (.iconst (-1), 1) := by decide +kernel
theorem dX8_drawn_10 : decode cX8_drawn 10 = .ok (.if_icmp .eq 41, 3) := by decide +kernel
theorem dX8_drawn_13 : decode cX8_drawn 13 = .ok (.iload_n 2, 1) := by decide +kernel
theorem dX8_drawn_14 : decode cX8_drawn 14 = .ok (.i2l, 1) := by decide +kernel
theorem dX8_drawn_15 : decode cX8_drawn 15 = .ok (.lconst 0, 1) := by decide +kernel
theorem dX8_drawn_16 : decode cX8_drawn 16 = .ok (.ldc2_w 227, 3) := by decide +kernel
theorem dX8_drawn_19 : decode cX8_drawn 19 = .ok (.invokestatic 181, 3) := by decide +kernel
theorem dX8_drawn_22 : decode cX8_drawn 22 = .ok (.ifCond .eq 29, 3) := by decide +kernel
theorem dX8_drawn_25 : decode cX8_drawn 25 = .ok (.iload_n 1, 1) := by decide +kernel
theorem dX8_drawn_26 : decode cX8_drawn 26 = .ok (.i2l, 1) := by decide +kernel
theorem dX8_drawn_27 : decode cX8_drawn 27 = .ok (.lconst 0, 1) := by decide +kernel
theorem dX8_drawn_28 : decode cX8_drawn 28 = .ok (.iload_n 2, 1) := by decide +kernel
theorem dX8_drawn_29 : decode cX8_drawn 29 = .ok (.iconst 2, 1) := by decide +kernel
theorem dX8_drawn_30 : decode cX8_drawn 30 = .ok (.if_icmp .ne 8, 3) := by decide +kernel
theorem dX8_drawn_33 : decode cX8_drawn 33 = .ok (.bipush 25, 2) := by decide +kernel
theorem dX8_drawn_35 : decode cX8_drawn 35 = .ok (.goto 7, 3) := by decide +kernel
theorem dX8_drawn_38 : decode cX8_drawn 38 = .ok (.aload_n 0, 1) := by decide +kernel
theorem dX8_drawn_39 : decode cX8_drawn 39 = .ok (.getfield 158, 3) := by decide +kernel
theorem dX8_drawn_42 : decode cX8_drawn 42 = .ok (.i2l, 1) := by decide +kernel
theorem dX8_drawn_43 : decode cX8_drawn 43 = .ok (.lconst 1, 1) := by decide +kernel
theorem dX8_drawn_44 : decode cX8_drawn 44 = .ok (.lsub, 1) := by decide +kernel
theorem dX8_drawn_45 : decode cX8_drawn 45 = .ok (.invokestatic 181, 3) := by decide +kernel
theorem dX8_drawn_48 : decode cX8_drawn 48 = .ok (.ifCond .ne 5, 3) := by decide +kernel
theorem dX8_drawn_51 : decode cX8_drawn 51 = .ok (.iconst (-1), 1) := by decide +kernel
theorem dX8_drawn_52 : decode cX8_drawn 52 = .ok (.ireturn, 1) := by decide +kernel
theorem dX8_drawn_53 : decode cX8_drawn 53 = .ok (.iload_n 2, 1) := by decide +kernel
theorem dX8_drawn_54 : decode cX8_drawn 54 = .ok (.iconst 2, 1) := by decide +kernel
theorem dX8_drawn_55 : decode cX8_drawn 55 = .ok (.if_icmp .ne 12, 3) := by decide +kernel
theorem dX8_drawn_58 : decode cX8_drawn 58 = .ok (.aload_n 0, 1) := by decide +kernel
theorem dX8_drawn_59 : decode cX8_drawn 59 = .ok (.getfield 155, 3) := by decide +kernel
theorem dX8_drawn_62 : decode cX8_drawn 62 = .ok (.iload_n 1, 1) := by decide +kernel
theorem dX8_drawn_63 : decode cX8_drawn 63 = .ok (.iaload, 1) := by decide +kernel
theorem dX8_drawn_64 : decode cX8_drawn 64 = .ok (.goto 13, 3) := by decide +kernel
theorem dX8_drawn_67 : decode cX8_drawn 67 = .ok (.aload_n 0, 1) := by decide +kernel
theorem dX8_drawn_68 : decode cX8_drawn 68 = .ok (.getfield 152, 3) := by decide +kernel
theorem dX8_drawn_71 : decode cX8_drawn 71 = .ok (.iconst 2, 1) := by decide +kernel
theorem dX8_drawn_72 : decode cX8_drawn 72 = .ok (.iload_n 1, 1) := by decide +kernel
theorem dX8_drawn_73 : decode cX8_drawn 73 = .ok (.imul, 1) := by decide +kernel
theorem dX8_drawn_74 : decode cX8_drawn 74 = .ok (.iload_n 2, 1) := by decide +kernel
theorem dX8_drawn_75 : decode cX8_drawn 75 = .ok (.iadd, 1) := by decide +kernel
theorem dX8_drawn_76 : decode cX8_drawn 76 = .ok (.iaload, 1) := by decide +kernel
theorem dX8_drawn_77 : decode cX8_drawn 77 = .ok (.ireturn, 1) := by decide +kernel
theorem dX8_lostDoors_0 : decode cX8_lostDoors 0 = .ok (.iconst 0, 1) := by decide +kernel
theorem dX8_lostDoors_1 : decode cX8_lostDoors 1 = .ok (.istore_n 1, 1) := by decide +kernel
theorem dX8_lostDoors_2 : decode cX8_lostDoors 2 = .ok (.iconst 0, 1) := by decide +kernel
theorem dX8_lostDoors_3 : decode cX8_lostDoors 3 = .ok (.istore_n 2, 1) := by decide +kernel
theorem dX8_lostDoors_4 : decode cX8_lostDoors 4 = .ok (.iload_n 2, 1) := by decide +kernel
theorem dX8_lostDoors_5 : decode cX8_lostDoors 5 = .ok (.aload_n 0, 1) := by decide +kernel
theorem dX8_lostDoors_6 : decode cX8_lostDoors 6 = .ok (.getfield 13, 3) := by decide +kernel
theorem dX8_lostDoors_9 : decode cX8_lostDoors 9 = .ok (.iconst 1, 1) := by decide +kernel
theorem dX8_lostDoors_10 : decode cX8_lostDoors 10 = .ok (.iaload, 1) := by decide +kernel
theorem dX8_lostDoors_11 : decode cX8_lostDoors 11 = .ok (.if_icmp .ge 21, 3) := by decide +kernel
theorem dX8_lostDoors_14 : decode cX8_lostDoors 14 = .ok (.iload_n 1, 1) := by decide +kernel
theorem dX8_lostDoors_15 : decode cX8_lostDoors 15 = .ok (.aload_n 0, 1) := by decide +kernel
theorem dX8_lostDoors_16 : decode cX8_lostDoors 16 = .ok (.getfield 13, 3) := by decide +kernel
theorem dX8_lostDoors_19 : decode cX8_lostDoors 19 = .ok (.bipush 31, 2) := by decide +kernel
theorem dX8_lostDoors_21 : decode cX8_lostDoors 21 = .ok (.iload_n 2, 1) := by decide +kernel
theorem dX8_lostDoors_22 : decode cX8_lostDoors 22 = .ok (.iadd, 1) := by decide +kernel
theorem dX8_lostDoors_23 : decode cX8_lostDoors 23 = .ok (.iaload, 1) := by decide +kernel
theorem dX8_lostDoors_24 : decode cX8_lostDoors 24 = .ok (.iadd, 1) := by decide +kernel
theorem dX8_lostDoors_25 : decode cX8_lostDoors 25 = .ok (.istore_n 1, 1) := by decide +kernel
theorem dX8_lostDoors_26 : decode cX8_lostDoors 26 = .ok (.iinc 2 1, 3) := by decide +kernel
theorem dX8_lostDoors_29 : decode cX8_lostDoors 29 = .ok (.goto (-25), 3) := by decide +kernel
theorem dX8_lostDoors_32 : decode cX8_lostDoors 32 = .ok (.iload_n 1, 1) := by decide +kernel
theorem dX8_lostDoors_33 : decode cX8_lostDoors 33 = .ok (.ireturn, 1) := by decide +kernel
theorem dX8_count_0 : decode cX8_count 0 = .ok (.aload_n 0, 1) := by decide +kernel
theorem dX8_count_1 : decode cX8_count 1 = .ok (.iconst 0, 1) := by decide +kernel
theorem dX8_count_2 : decode cX8_count 2 = .ok (.putfield 161, 3) := by decide +kernel
theorem dX8_count_5 : decode cX8_count 5 = .ok (.iload_n 1, 1) := by decide +kernel
theorem dX8_count_6 : decode cX8_count 6 = .ok (.tableswitch 161 0 13 #[70, 77, 84, 91, 96, 101, 108, 113, 118, 125, 132, 139, 146, 154], 70) := by decide +kernel
theorem dX8_count_76 : decode cX8_count 76 = .ok (.aload_n 0, 1) := by decide +kernel
theorem dX8_count_77 : decode cX8_count 77 = .ok (.getfield 13, 3) := by decide +kernel
theorem dX8_count_80 : decode cX8_count 80 = .ok (.iconst 0, 1) := by decide +kernel
theorem dX8_count_81 : decode cX8_count 81 = .ok (.iaload, 1) := by decide +kernel
theorem dX8_count_82 : decode cX8_count 82 = .ok (.ireturn, 1) := by decide +kernel
theorem dX8_count_83 : decode cX8_count 83 = .ok (.aload_n 0, 1) := by decide +kernel
theorem dX8_count_84 : decode cX8_count 84 = .ok (.getfield 13, 3) := by decide +kernel
theorem dX8_count_87 : decode cX8_count 87 = .ok (.iconst 1, 1) := by decide +kernel
theorem dX8_count_88 : decode cX8_count 88 = .ok (.iaload, 1) := by decide +kernel
theorem dX8_count_89 : decode cX8_count 89 = .ok (.ireturn, 1) := by decide +kernel
theorem dX8_count_90 : decode cX8_count 90 = .ok (.aload_n 0, 1) := by decide +kernel
theorem dX8_count_91 : decode cX8_count 91 = .ok (.getfield 13, 3) := by decide +kernel
theorem dX8_count_94 : decode cX8_count 94 = .ok (.iconst 2, 1) := by decide +kernel
theorem dX8_count_95 : decode cX8_count 95 = .ok (.iaload, 1) := by decide +kernel
theorem dX8_count_96 : decode cX8_count 96 = .ok (.ireturn, 1) := by decide +kernel
theorem dX8_count_97 : decode cX8_count 97 = .ok (.aload_n 0, 1) := by decide +kernel
theorem dX8_count_98 : decode cX8_count 98 = .ok (.invokevirtual 531, 3) := by decide +kernel
theorem dX8_count_101 : decode cX8_count 101 = .ok (.ireturn, 1) := by decide +kernel
theorem dX8_count_102 : decode cX8_count 102 = .ok (.aload_n 0, 1) := by decide +kernel
theorem dX8_count_103 : decode cX8_count 103 = .ok (.invokevirtual 562, 3) := by decide +kernel
theorem dX8_count_106 : decode cX8_count 106 = .ok (.ireturn, 1) := by decide +kernel
theorem dX8_count_107 : decode cX8_count 107 = .ok (.aload_n 0, 1) := by decide +kernel
theorem dX8_count_108 : decode cX8_count 108 = .ok (.getfield 13, 3) := by decide +kernel
theorem dX8_count_111 : decode cX8_count 111 = .ok (.iconst 3, 1) := by decide +kernel
theorem dX8_count_112 : decode cX8_count 112 = .ok (.iaload, 1) := by decide +kernel
theorem dX8_count_113 : decode cX8_count 113 = .ok (.ireturn, 1) := by decide +kernel
theorem dX8_count_114 : decode cX8_count 114 = .ok (.aload_n 0, 1) := by decide +kernel
theorem dX8_count_115 : decode cX8_count 115 = .ok (.getfield 167, 3) := by decide +kernel
theorem dX8_count_118 : decode cX8_count 118 = .ok (.ireturn, 1) := by decide +kernel
theorem dX8_count_119 : decode cX8_count 119 = .ok (.aload_n 0, 1) := by decide +kernel
theorem dX8_count_120 : decode cX8_count 120 = .ok (.getfield 238, 3) := by decide +kernel
theorem dX8_count_123 : decode cX8_count 123 = .ok (.ireturn, 1) := by decide +kernel
theorem dX8_count_124 : decode cX8_count 124 = .ok (.aload_n 0, 1) := by decide +kernel
theorem dX8_count_125 : decode cX8_count 125 = .ok (.getfield 7, 3) := by decide +kernel
theorem dX8_count_128 : decode cX8_count 128 = .ok (.iconst 1, 1) := by decide +kernel
theorem dX8_count_129 : decode cX8_count 129 = .ok (.iaload, 1) := by decide +kernel
theorem dX8_count_130 : decode cX8_count 130 = .ok (.ireturn, 1) := by decide +kernel
theorem dX8_count_131 : decode cX8_count 131 = .ok (.aload_n 0, 1) := by decide +kernel
theorem dX8_count_132 : decode cX8_count 132 = .ok (.getfield 7, 3) := by decide +kernel
theorem dX8_count_135 : decode cX8_count 135 = .ok (.iconst 2, 1) := by decide +kernel
theorem dX8_count_136 : decode cX8_count 136 = .ok (.iaload, 1) := by decide +kernel
theorem dX8_count_137 : decode cX8_count 137 = .ok (.ireturn, 1) := by decide +kernel
theorem dX8_count_138 : decode cX8_count 138 = .ok (.aload_n 0, 1) := by decide +kernel
theorem dX8_count_139 : decode cX8_count 139 = .ok (.getfield 7, 3) := by decide +kernel
theorem dX8_count_142 : decode cX8_count 142 = .ok (.iconst 3, 1) := by decide +kernel
theorem dX8_count_143 : decode cX8_count 143 = .ok (.iaload, 1) := by decide +kernel
theorem dX8_count_144 : decode cX8_count 144 = .ok (.ireturn, 1) := by decide +kernel
theorem dX8_count_145 : decode cX8_count 145 = .ok (.aload_n 0, 1) := by decide +kernel
theorem dX8_count_146 : decode cX8_count 146 = .ok (.getfield 7, 3) := by decide +kernel
theorem dX8_count_149 : decode cX8_count 149 = .ok (.iconst 5, 1) := by decide +kernel
theorem dX8_count_150 : decode cX8_count 150 = .ok (.iaload, 1) := by decide +kernel
theorem dX8_count_151 : decode cX8_count 151 = .ok (.ireturn, 1) := by decide +kernel
theorem dX8_count_152 : decode cX8_count 152 = .ok (.aload_n 0, 1) := by decide +kernel
theorem dX8_count_153 : decode cX8_count 153 = .ok (.getfield 7, 3) := by decide +kernel
theorem dX8_count_156 : decode cX8_count 156 = .ok (.bipush 6, 2) := by decide +kernel
theorem dX8_count_158 : decode cX8_count 158 = .ok (.iaload, 1) := by decide +kernel
theorem dX8_count_159 : decode cX8_count 159 = .ok (.ireturn, 1) := by decide +kernel
theorem dX8_count_160 : decode cX8_count 160 = .ok (.aload_n 0, 1) := by decide +kernel
theorem dX8_count_161 : decode cX8_count 161 = .ok (.getfield 13, 3) := by decide +kernel
theorem dX8_count_164 : decode cX8_count 164 = .ok (.iconst 4, 1) := by decide +kernel
theorem dX8_count_165 : decode cX8_count 165 = .ok (.iaload, 1) := by decide +kernel
theorem dX8_count_166 : decode cX8_count 166 = .ok (.ireturn, 1) := by decide +kernel
theorem dX8_count_167 : decode cX8_count 167 = .ok (.iload_n 1, 1) := by decide +kernel
theorem dX8_count_168 : decode cX8_count 168 = .ok (.i2l, 1) := by decide +kernel
theorem dX8_count_169 : decode cX8_count 169 = .ok (.ldc2_w 565, 3) := by decide +kernel
theorem dX8_count_172 : decode cX8_count 172 = .ok (.ldc2_w 567, 3) := by decide +kernel
theorem dX8_count_175 : decode cX8_count 175 = .ok (.invokestatic 181, 3) := by decide +kernel
theorem dX8_count_178 : decode cX8_count 178 = .ok (.ifCond .eq 17, 3) := by decide +kernel
theorem dX8_count_181 : decode cX8_count 181 = .ok (.aload_n 0, 1) := by decide +kernel
theorem dX8_count_182 : decode cX8_count 182 = .ok (.getfield 13, 3) := by decide +kernel
theorem dX8_count_185 : decode cX8_count 185 = .ok (.iconst 5, 1) := by decide +kernel
theorem dX8_count_186 : decode cX8_count 186 = .ok (.iload_n 1, 1) := by decide +kernel
theorem dX8_count_187 : decode cX8_count 187 = .ok (.iadd, 1) := by decide +kernel
theorem dX8_count_188 : decode cX8_count 188 = .ok (.bipush 14, 2) := by decide +kernel
theorem dX8_count_190 : decode cX8_count 190 = .ok (.isub, 1) := by decide +kernel
theorem dX8_count_191 : decode cX8_count 191 = .ok (.iaload, 1) := by decide +kernel
theorem dX8_count_192 : decode cX8_count 192 = .ok (.goto 4, 3) := by decide +kernel
theorem dX8_count_195 : decode cX8_count 195 = .ok (.iconst (-1), 1) := by decide +kernel
theorem dX8_count_196 : decode cX8_count 196 = .ok (.ireturn, 1) := by decide +kernel
theorem dX8_status_0 : decode cX8_status 0 = .ok (.aload_n 0, 1) := by decide +kernel
theorem dX8_status_1 : decode cX8_status 1 = .ok (.iconst 0, 1) := by decide +kernel
theorem dX8_status_2 : decode cX8_status 2 = .ok (.putfield 161, 3) := by decide +kernel
theorem dX8_status_5 : decode cX8_status 5 = .ok (.aload_n 0, 1) := by decide +kernel
theorem dX8_status_6 : decode cX8_status 6 = .ok (.getfield 164, 3) := by decide +kernel
theorem dX8_status_9 : decode cX8_status 9 = .ok (.ireturn, 1) := by decide +kernel
