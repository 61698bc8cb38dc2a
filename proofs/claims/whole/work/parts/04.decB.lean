theorem dX8_init_0 : decode cX8_init 0 = .ok (.aload_n 0, 1) := by decide +kernel
theorem dX8_init_1 : decode cX8_init 1 = .ok (.invokespecial 1, 3) := by decide +kernel
theorem dX8_init_4 : decode cX8_init 4 = .ok (.aload_n 0, 1) := by decide +kernel
theorem dX8_init_5 : decode cX8_init 5 = .ok (.sipush 240, 3) := by decide +kernel
theorem dX8_init_8 : decode cX8_init 8 = .ok (.newarray .int, 2) := by decide +kernel
theorem dX8_init_10 : decode cX8_init 10 = .ok (.putfield 9, 3) := by decide +kernel
theorem dX8_init_13 : decode cX8_init 13 = .ok (.aload_n 0, 1) := by decide +kernel
theorem dX8_init_14 : decode cX8_init 14 = .ok (.sipush 240, 3) := by decide +kernel
theorem dX8_init_17 : decode cX8_init 17 = .ok (.newarray .int, 2) := by decide +kernel
theorem dX8_init_19 : decode cX8_init 19 = .ok (.putfield 13, 3) := by decide +kernel
theorem dX8_init_22 : decode cX8_init 22 = .ok (.aload_n 0, 1) := by decide +kernel
theorem dX8_init_23 : decode cX8_init 23 = .ok (.sipush 240, 3) := by decide +kernel
theorem dX8_init_26 : decode cX8_init 26 = .ok (.newarray .int, 2) := by decide +kernel
theorem dX8_init_28 : decode cX8_init 28 = .ok (.putfield 16, 3) := by decide +kernel
theorem dX8_init_31 : decode cX8_init 31 = .ok (.aload_n 0, 1) := by decide +kernel
theorem dX8_init_32 : decode cX8_init 32 = .ok (.sipush 240, 3) := by decide +kernel
theorem dX8_init_35 : decode cX8_init 35 = .ok (.newarray .int, 2) := by decide +kernel
theorem dX8_init_37 : decode cX8_init 37 = .ok (.putfield 19, 3) := by decide +kernel
theorem dX8_init_40 : decode cX8_init 40 = .ok (.aload_n 0, 1) := by decide +kernel
theorem dX8_init_41 : decode cX8_init 41 = .ok (.sipush 720, 3) := by decide +kernel
theorem dX8_init_44 : decode cX8_init 44 = .ok (.newarray .int, 2) := by decide +kernel
theorem dX8_init_46 : decode cX8_init 46 = .ok (.putfield 22, 3) := by decide +kernel
theorem dX8_init_49 : decode cX8_init 49 = .ok (.aload_n 0, 1) := by decide +kernel
theorem dX8_init_50 : decode cX8_init 50 = .ok (.sipush 720, 3) := by decide +kernel
theorem dX8_init_53 : decode cX8_init 53 = .ok (.newarray .int, 2) := by decide +kernel
theorem dX8_init_55 : decode cX8_init 55 = .ok (.putfield 25, 3) := by decide +kernel
theorem dX8_init_58 : decode cX8_init 58 = .ok (.aload_n 0, 1) := by decide +kernel
theorem dX8_init_59 : decode cX8_init 59 = .ok (.sipush 240, 3) := by decide +kernel
theorem dX8_init_62 : decode cX8_init 62 = .ok (.newarray .int, 2) := by decide +kernel
theorem dX8_init_64 : decode cX8_init 64 = .ok (.putfield 28, 3) := by decide +kernel
theorem dX8_init_67 : decode cX8_init 67 = .ok (.aload_n 0, 1) := by decide +kernel
theorem dX8_init_68 : decode cX8_init 68 = .ok (.sipush 1920, 3) := by decide +kernel
theorem dX8_init_71 : decode cX8_init 71 = .ok (.newarray .int, 2) := by decide +kernel
theorem dX8_init_73 : decode cX8_init 73 = .ok (.putfield 31, 3) := by decide +kernel
theorem dX8_init_76 : decode cX8_init 76 = .ok (.aload_n 0, 1) := by decide +kernel
theorem dX8_init_77 : decode cX8_init 77 = .ok (.bipush 8, 2) := by decide +kernel
theorem dX8_init_79 : decode cX8_init 79 = .ok (.newarray .int, 2) := by decide +kernel
theorem dX8_init_81 : decode cX8_init 81 = .ok (.putfield 34, 3) := by decide +kernel
theorem dX8_init_84 : decode cX8_init 84 = .ok (.aload_n 0, 1) := by decide +kernel
theorem dX8_init_85 : decode cX8_init 85 = .ok (.bipush 8, 2) := by decide +kernel
theorem dX8_init_87 : decode cX8_init 87 = .ok (.newarray .int, 2) := by decide +kernel
theorem dX8_init_89 : decode cX8_init 89 = .ok (.putfield 37, 3) := by decide +kernel
theorem dX8_init_92 : decode cX8_init 92 = .ok (.aload_n 0, 1) := by decide +kernel
theorem dX8_init_93 : decode cX8_init 93 = .ok (.bipush 64, 2) := by decide +kernel
theorem dX8_init_95 : decode cX8_init 95 = .ok (.newarray .int, 2) := by decide +kernel
theorem dX8_init_97 : decode cX8_init 97 = .ok (.putfield 40, 3) := by decide +kernel
theorem dX8_init_100 : decode cX8_init 100 = .ok (.aload_n 0, 1) := by decide +kernel
theorem dX8_init_101 : decode cX8_init 101 = .ok (.bipush 64, 2) := by decide +kernel
theorem dX8_init_103 : decode cX8_init 103 = .ok (.newarray .int, 2) := by decide +kernel
theorem dX8_init_105 : decode cX8_init 105 = .ok (.putfield 43, 3) := by decide +kernel
theorem dX8_init_108 : decode cX8_init 108 = .ok (.aload_n 0, 1) := by decide +kernel
theorem dX8_init_109 : decode cX8_init 109 = .ok (.sipush 240, 3) := by decide +kernel
theorem dX8_init_112 : decode cX8_init 112 = .ok (.newarray .long, 2) := by decide +kernel
theorem dX8_init_114 : decode cX8_init 114 = .ok (.putfield 46, 3) := by decide +kernel
theorem dX8_init_117 : decode cX8_init 117 = .ok (.aload_n 0, 1) := by decide +kernel
theorem dX8_init_118 : decode cX8_init 118 = .ok (.ldc 50, 2) := by decide +kernel
theorem dX8_init_120 : decode cX8_init 120 = .ok (.newarray .boolean, 2) := by decide +kernel
theorem dX8_init_122 : decode cX8_init 122 = .ok (.putfield 51, 3) := by decide +kernel
theorem dX8_init_125 : decode cX8_init 125 = .ok (.aload_n 0, 1) := by decide +kernel
theorem dX8_init_126 : decode cX8_init 126 = .ok (.sipush 1920, 3) := by decide +kernel
theorem dX8_init_129 : decode cX8_init 129 = .ok (.newarray .boolean, 2) := by decide +kernel
theorem dX8_init_131 : decode cX8_init 131 = .ok (.putfield 55, 3) := by decide +kernel
theorem dX8_init_134 : decode cX8_init 134 = .ok (.aload_n 0, 1) := by decide +kernel
theorem dX8_init_135 : decode cX8_init 135 = .ok (.sipush 1920, 3) := by decide +kernel
theorem dX8_init_138 : decode cX8_init 138 = .ok (.newarray .boolean, 2) := by decide +kernel
theorem dX8_init_140 : decode cX8_init 140 = .ok (.putfield 58, 3) := by decide +kernel
theorem dX8_init_143 : decode cX8_init 143 = .ok (.aload_n 0, 1) := by decide +kernel
theorem dX8_init_144 : decode cX8_init 144 = .ok (.sipush 240, 3) := by decide +kernel
theorem dX8_init_147 : decode cX8_init 147 = .ok (.newarray .boolean, 2) := by decide +kernel
theorem dX8_init_149 : decode cX8_init 149 = .ok (.putfield 61, 3) := by decide +kernel
theorem dX8_init_152 : decode cX8_init 152 = .ok (.aload_n 0, 1) := by decide +kernel
theorem dX8_init_153 : decode cX8_init 153 = .ok (.ldc 50, 2) := by decide +kernel
theorem dX8_init_155 : decode cX8_init 155 = .ok (.newarray .byte, 2) := by decide +kernel
theorem dX8_init_157 : decode cX8_init 157 = .ok (.putfield 64, 3) := by decide +kernel
theorem dX8_init_160 : decode cX8_init 160 = .ok (.aload_n 0, 1) := by decide +kernel
theorem dX8_init_161 : decode cX8_init 161 = .ok (.ldc 50, 2) := by decide +kernel
theorem dX8_init_163 : decode cX8_init 163 = .ok (.newarray .byte, 2) := by decide +kernel
theorem dX8_init_165 : decode cX8_init 165 = .ok (.putfield 68, 3) := by decide +kernel
theorem dX8_init_168 : decode cX8_init 168 = .ok (.aload_n 0, 1) := by decide +kernel
theorem dX8_init_169 : decode cX8_init 169 = .ok (.iconst (-1), 1) := by decide +kernel
theorem dX8_init_170 : decode cX8_init 170 = .ok (.putfield 71, 3) := by decide +kernel
theorem dX8_init_173 : decode cX8_init 173 = .ok (.aload_n 0, 1) := by decide +kernel
theorem dX8_init_174 : decode cX8_init 174 = .ok (.sipush 240, 3) := by decide +kernel
theorem dX8_init_177 : decode cX8_init 177 = .ok (.newarray .int, 2) := by decide +kernel
theorem dX8_init_179 : decode cX8_init 179 = .ok (.putfield 75, 3) := by decide +kernel
theorem dX8_init_182 : decode cX8_init 182 = .ok (.aload_n 0, 1) := by decide +kernel
theorem dX8_init_183 : decode cX8_init 183 = .ok (.sipush 240, 3) := by decide +kernel
theorem dX8_init_186 : decode cX8_init 186 = .ok (.newarray .int, 2) := by decide +kernel
theorem dX8_init_188 : decode cX8_init 188 = .ok (.putfield 78, 3) := by decide +kernel
theorem dX8_init_191 : decode cX8_init 191 = .ok (.aload_n 0, 1) := by decide +kernel
theorem dX8_init_192 : decode cX8_init 192 = .ok (.sipush 240, 3) := by decide +kernel
theorem dX8_init_195 : decode cX8_init 195 = .ok (.newarray .int, 2) := by decide +kernel
theorem dX8_init_197 : decode cX8_init 197 = .ok (.putfield 81, 3) := by decide +kernel
theorem dX8_init_200 : decode cX8_init 200 = .ok (.aload_n 0, 1) := by decide +kernel
theorem dX8_init_201 : decode cX8_init 201 = .ok (.sipush 240, 3) := by decide +kernel
theorem dX8_init_204 : decode cX8_init 204 = .ok (.newarray .int, 2) := by decide +kernel
theorem dX8_init_206 : decode cX8_init 206 = .ok (.putfield 84, 3) := by decide +kernel
theorem dX8_init_209 : decode cX8_init 209 = .ok (.aload_n 0, 1) := by decide +kernel
theorem dX8_init_210 : decode cX8_init 210 = .ok (.bipush 8, 2) := by decide +kernel
theorem dX8_init_212 : decode cX8_init 212 = .ok (.newarray .int, 2) := by decide +kernel
theorem dX8_init_214 : decode cX8_init 214 = .ok (.putfield 87, 3) := by decide +kernel
theorem dX8_init_217 : decode cX8_init 217 = .ok (.aload_n 0, 1) := by decide +kernel
theorem dX8_init_218 : decode cX8_init 218 = .ok (.bipush 8, 2) := by decide +kernel
theorem dX8_init_220 : decode cX8_init 220 = .ok (.newarray .int, 2) := by decide +kernel
theorem dX8_init_222 : decode cX8_init 222 = .ok (.putfield 90, 3) := by decide +kernel
theorem dX8_init_225 : decode cX8_init 225 = .ok (.aload_n 0, 1) := by decide +kernel
theorem dX8_init_226 : decode cX8_init 226 = .ok (.sipush 240, 3) := by decide +kernel
theorem dX8_init_229 : decode cX8_init 229 = .ok (.newarray .long, 2) := by decide +kernel
theorem dX8_init_231 : decode cX8_init 231 = .ok (.putfield 93, 3) := by decide +kernel
theorem dX8_init_234 : decode cX8_init 234 = .ok (.aload_n 0, 1) := by decide +kernel
theorem dX8_init_235 : decode cX8_init 235 = .ok (.sipush 240, 3) := by decide +kernel
theorem dX8_init_238 : decode cX8_init 238 = .ok (.newarray .long, 2) := by decide +kernel
theorem dX8_init_240 : decode cX8_init 240 = .ok (.putfield 96, 3) := by decide +kernel
theorem dX8_init_243 : decode cX8_init 243 = .ok (.aload_n 0, 1) := by decide +kernel
theorem dX8_init_244 : decode cX8_init 244 = .ok (.sipush 128, 3) := by decide +kernel
theorem dX8_init_247 : decode cX8_init 247 = .ok (.newarray .int, 2) := by decide +kernel
theorem dX8_init_249 : decode cX8_init 249 = .ok (.putfield 99, 3) := by decide +kernel
theorem dX8_init_252 : decode cX8_init 252 = .ok (.aload_n 0, 1) := by decide +kernel
theorem dX8_init_253 : decode cX8_init 253 = .ok (.bipush 64, 2) := by decide +kernel
theorem dX8_init_255 : decode cX8_init 255 = .ok (.newarray .int, 2) := by decide +kernel
theorem dX8_init_257 : decode cX8_init 257 = .ok (.putfield 102, 3) := by decide +kernel
theorem dX8_init_260 : decode cX8_init 260 = .ok (.aload_n 0, 1) := by decide +kernel
theorem dX8_init_261 : decode cX8_init 261 = .ok (.bipush 64, 2) := by decide +kernel
theorem dX8_init_263 : decode cX8_init 263 = .ok (.newarray .int, 2) := by decide +kernel
theorem dX8_init_265 : decode cX8_init 265 = .ok (.dup, 1) := by decide +kernel
theorem dX8_init_266 : decode cX8_init 266 = .ok (.iconst 0, 1) := by decide +kernel
theorem dX8_init_267 : decode cX8_init 267 = .ok (.ldc 105, 2) := by decide +kernel
theorem dX8_init_269 : decode cX8_init 269 = .ok (.iastore, 1) := by decide +kernel
theorem dX8_init_270 : decode cX8_init 270 = .ok (.dup, 1) := by decide +kernel
theorem dX8_init_271 : decode cX8_init 271 = .ok (.iconst 1, 1) := by decide +kernel
theorem dX8_init_272 : decode cX8_init 272 = .ok (.ldc 106, 2) := by decide +kernel
theorem dX8_init_274 : decode cX8_init 274 = .ok (.iastore, 1) := by decide +kernel
theorem dX8_init_275 : decode cX8_init 275 = .ok (.dup, 1) := by decide +kernel
theorem dX8_init_276 : decode cX8_init 276 = .ok (.iconst 2, 1) := by decide +kernel
theorem dX8_init_277 : decode cX8_init 277 = .ok (.ldc 107, 2) := by decide +kernel
theorem dX8_init_279 : decode cX8_init 279 = .ok (.iastore, 1) := by decide +kernel
theorem dX8_init_280 : decode cX8_init 280 = .ok (.dup, 1) := by decide +kernel
theorem dX8_init_281 : decode cX8_init 281 = .ok (.iconst 3, 1) := by decide +kernel
theorem dX8_init_282 : decode cX8_init 282 = .ok (.ldc 108, 2) := by decide +kernel
theorem dX8_init_284 : decode cX8_init 284 = .ok (.iastore, 1) := by decide +kernel
theorem dX8_init_285 : decode cX8_init 285 = .ok (.dup, 1) := by decide +kernel
theorem dX8_init_286 : decode cX8_init 286 = .ok (.iconst 4, 1) := by decide +kernel
theorem dX8_init_287 : decode cX8_init 287 = .ok (.ldc 109, 2) := by decide +kernel
theorem dX8_init_289 : decode cX8_init 289 = .ok (.iastore, 1) := by decide +kernel
theorem dX8_init_290 : decode cX8_init 290 = .ok (.dup, 1) := by decide +kernel
theorem dX8_init_291 : decode cX8_init 291 = .ok (.iconst 5, 1) := by decide +kernel
theorem dX8_init_292 : decode cX8_init 292 = .ok (.ldc 110, 2) := by decide +kernel
theorem dX8_init_294 : decode cX8_init 294 = .ok (.iastore, 1) := by decide +kernel
theorem dX8_init_295 : decode cX8_init 295 = .ok (.dup, 1) := by decide +kernel
theorem dX8_init_296 : decode cX8_init 296 = .ok (.bipush 6, 2) := by decide +kernel
theorem dX8_init_298 : decode cX8_init 298 = .ok (.ldc 111, 2) := by decide +kernel
theorem dX8_init_300 : decode cX8_init 300 = .ok (.iastore, 1) := by decide +kernel
theorem dX8_init_301 : decode cX8_init 301 = .ok (.dup, 1) := by decide +kernel
theorem dX8_init_302 : decode cX8_init 302 = .ok (.bipush 7, 2) := by decide +kernel
theorem dX8_init_304 : decode cX8_init 304 = .ok (.ldc 112, 2) := by decide +kernel
theorem dX8_init_306 : decode cX8_init 306 = .ok (.iastore, 1) := by decide +kernel
theorem dX8_init_307 : decode cX8_init 307 = .ok (.dup, 1) := by decide +kernel
theorem dX8_init_308 : decode cX8_init 308 = .ok (.bipush 8, 2) := by decide +kernel
theorem dX8_init_310 : decode cX8_init 310 = .ok (.ldc 113, 2) := by decide +kernel
theorem dX8_init_312 : decode cX8_init 312 = .ok (.iastore, 1) := by decide +kernel
theorem dX8_init_313 : decode cX8_init 313 = .ok (.dup, 1) := by decide +kernel
theorem dX8_init_314 : decode cX8_init 314 = .ok (.bipush 9, 2) := by decide +kernel
theorem dX8_init_316 : decode cX8_init 316 = .ok (.ldc 114, 2) := by decide +kernel
theorem dX8_init_318 : decode cX8_init 318 = .ok (.iastore, 1) := by decide +kernel
theorem dX8_init_319 : decode cX8_init 319 = .ok (.dup, 1) := by decide +kernel
theorem dX8_init_320 : decode cX8_init 320 = .ok (.bipush 10, 2) := by decide +kernel
theorem dX8_init_322 : decode cX8_init 322 = .ok (.ldc 115, 2) := by decide +kernel
theorem dX8_init_324 : decode cX8_init 324 = .ok (.iastore, 1) := by decide +kernel
theorem dX8_init_325 : decode cX8_init 325 = .ok (.dup, 1) := by decide +kernel
theorem dX8_init_326 : decode cX8_init 326 = .ok (.bipush 11, 2) := by decide +kernel
theorem dX8_init_328 : decode cX8_init 328 = .ok (.ldc 116, 2) := by decide +kernel
theorem dX8_init_330 : decode cX8_init 330 = .ok (.iastore, 1) := by decide +kernel
theorem dX8_init_331 : decode cX8_init 331 = .ok (.dup, 1) := by decide +kernel
theorem dX8_init_332 : decode cX8_init 332 = .ok (.bipush 12, 2) := by decide +kernel
theorem dX8_init_334 : decode cX8_init 334 = .ok (.ldc 117, 2) := by decide +kernel
theorem dX8_init_336 : decode cX8_init 336 = .ok (.iastore, 1) := by decide +kernel
theorem dX8_init_337 : decode cX8_init 337 = .ok (.dup, 1) := by decide +kernel
theorem dX8_init_338 : decode cX8_init 338 = .ok (.bipush 13, 2) := by decide +kernel
theorem dX8_init_340 : decode cX8_init 340 = .ok (.ldc 118, 2) := by decide +kernel
theorem dX8_init_342 : decode cX8_init 342 = .ok (.iastore, 1) := by decide +kernel
theorem dX8_init_343 : decode cX8_init 343 = .ok (.dup, 1) := by decide +kernel
theorem dX8_init_344 : decode cX8_init 344 = .ok (.bipush 14, 2) := by decide +kernel
theorem dX8_init_346 : decode cX8_init 346 = .ok (.ldc 119, 2) := by decide +kernel
theorem dX8_init_348 : decode cX8_init 348 = .ok (.iastore, 1) := by decide +kernel
theorem dX8_init_349 : decode cX8_init 349 = .ok (.dup, 1) := by decide +kernel
theorem dX8_init_350 : decode cX8_init 350 = .ok (.bipush 15, 2) := by decide +kernel
theorem dX8_init_352 : decode cX8_init 352 = .ok (.ldc 120, 2) := by decide +kernel
theorem dX8_init_354 : decode cX8_init 354 = .ok (.iastore, 1) := by decide +kernel
theorem dX8_init_355 : decode cX8_init 355 = .ok (.dup, 1) := by decide +kernel
theorem dX8_init_356 : decode cX8_init 356 = .ok (.bipush 16, 2) := by decide +kernel
theorem dX8_init_358 : decode cX8_init 358 = .ok (.ldc 121, 2) := by decide +kernel
theorem dX8_init_360 : decode cX8_init 360 = .ok (.iastore, 1) := by decide +kernel
theorem dX8_init_361 : decode cX8_init 361 = .ok (.dup, 1) := by decide +kernel
theorem dX8_init_362 : decode cX8_init 362 = .ok (.bipush 17, 2) := by decide +kernel
theorem dX8_init_364 : decode cX8_init 364 = .ok (.ldc 122, 2) := by decide +kernel
theorem dX8_init_366 : decode cX8_init 366 = .ok (.iastore, 1) := by decide +kernel
theorem dX8_init_367 : decode cX8_init 367 = .ok (.dup, 1) := by decide +kernel
theorem dX8_init_368 : decode cX8_init 368 = .ok (.bipush 18, 2) := by decide +kernel
theorem dX8_init_370 : decode cX8_init 370 = .ok (.ldc 123, 2) := by decide +kernel
theorem dX8_init_372 : decode cX8_init 372 = .ok (.iastore, 1) := by decide +kernel
theorem dX8_init_373 : decode cX8_init 373 = .ok (.dup, 1) := by decide +kernel
theorem dX8_init_374 : decode cX8_init 374 = .ok (.bipush 19, 2) := by decide +kernel
theorem dX8_init_376 : decode cX8_init 376 = .ok (.ldc 124, 2) := by decide +kernel
theorem dX8_init_378 : decode cX8_init 378 = .ok (.iastore, 1) := by decide +kernel
theorem dX8_init_379 : decode cX8_init 379 = .ok (.dup, 1) := by decide +kernel
theorem dX8_init_380 : decode cX8_init 380 = .ok (.bipush 20, 2) := by decide +kernel
theorem dX8_init_382 : decode cX8_init 382 = .ok (.ldc 125, 2) := by decide +kernel
theorem dX8_init_384 : decode cX8_init 384 = .ok (.iastore, 1) := by decide +kernel
theorem dX8_init_385 : decode cX8_init 385 = .ok (.dup, 1) := by decide +kernel
theorem dX8_init_386 : decode cX8_init 386 = .ok (.bipush 21, 2) := by decide +kernel
theorem dX8_init_388 : decode cX8_init 388 = .ok (.ldc 126, 2) := by decide +kernel
theorem dX8_init_390 : decode cX8_init 390 = .ok (.iastore, 1) := by decide +kernel
theorem dX8_init_391 : decode cX8_init 391 = .ok (.dup, 1) := by decide +kernel
theorem dX8_init_392 : decode cX8_init 392 = .ok (.bipush 22, 2) := by decide +kernel
theorem dX8_init_394 : decode cX8_init 394 = .ok (.ldc 127, 2) := by decide +kernel
theorem dX8_init_396 : decode cX8_init 396 = .ok (.iastore, 1) := by decide +kernel
theorem dX8_init_397 : decode cX8_init 397 = .ok (.dup, 1) := by decide +kernel
theorem dX8_init_398 : decode cX8_init 398 = .ok (.bipush 23, 2) := by decide +kernel
theorem dX8_init_400 : decode cX8_init 400 = .ok (.ldc 128, 2) := by decide +kernel
theorem dX8_init_402 : decode cX8_init 402 = .ok (.iastore, 1) := by decide +kernel
theorem dX8_init_403 : decode cX8_init 403 = .ok (.dup, 1) := by decide +kernel
theorem dX8_init_404 : decode cX8_init 404 = .ok (.bipush 24, 2) := by decide +kernel
theorem dX8_init_406 : decode cX8_init 406 = .ok (.ldc 129, 2) := by decide +kernel
theorem dX8_init_408 : decode cX8_init 408 = .ok (.iastore, 1) := by decide +kernel
theorem dX8_init_409 : decode cX8_init 409 = .ok (.dup, 1) := by decide +kernel
theorem dX8_init_410 : decode cX8_init 410 = .ok (.bipush 25, 2) := by decide +kernel
theorem dX8_init_412 : decode cX8_init 412 = .ok (.ldc 130, 2) := by decide +kernel
theorem dX8_init_414 : decode cX8_init 414 = .ok (.iastore, 1) := by decide +kernel
theorem dX8_init_415 : decode cX8_init 415 = .ok (.dup, 1) := by decide +kernel
theorem dX8_init_416 : decode cX8_init 416 = .ok (.bipush 26, 2) := by decide +kernel
theorem dX8_init_418 : decode cX8_init 418 = .ok (.ldc 131, 2) := by decide +kernel
theorem dX8_init_420 : decode cX8_init 420 = .ok (.iastore, 1) := by decide +kernel
theorem dX8_init_421 : decode cX8_init 421 = .ok (.dup, 1) := by decide +kernel
theorem dX8_init_422 : decode cX8_init 422 = .ok (.bipush 27, 2) := by decide +kernel
theorem dX8_init_424 : decode cX8_init 424 = .ok (.ldc 132, 2) := by decide +kernel
theorem dX8_init_426 : decode cX8_init 426 = .ok (.iastore, 1) := by decide +kernel
theorem dX8_init_427 : decode cX8_init 427 = .ok (.dup, 1) := by decide +kernel
theorem dX8_init_428 : decode cX8_init 428 = .ok (.bipush 28, 2) := by decide +kernel
theorem dX8_init_430 : decode cX8_init 430 = .ok (.ldc 133, 2) := by decide +kernel
theorem dX8_init_432 : decode cX8_init 432 = .ok (.iastore, 1) := by decide +kernel
theorem dX8_init_433 : decode cX8_init 433 = .ok (.dup, 1) := by decide +kernel
theorem dX8_init_434 : decode cX8_init 434 = .ok (.bipush 29, 2) := by decide +kernel
theorem dX8_init_436 : decode cX8_init 436 = .ok (.ldc 134, 2) := by decide +kernel
theorem dX8_init_438 : decode cX8_init 438 = .ok (.iastore, 1) := by decide +kernel
theorem dX8_init_439 : decode cX8_init 439 = .ok (.dup, 1) := by decide +kernel
theorem dX8_init_440 : decode cX8_init 440 = .ok (.bipush 30, 2) := by decide +kernel
theorem dX8_init_442 : decode cX8_init 442 = .ok (.ldc 135, 2) := by decide +kernel
theorem dX8_init_444 : decode cX8_init 444 = .ok (.iastore, 1) := by decide +kernel
theorem dX8_init_445 : decode cX8_init 445 = .ok (.dup, 1) := by decide +kernel
theorem dX8_init_446 : decode cX8_init 446 = .ok (.bipush 31, 2) := by decide +kernel
theorem dX8_init_448 : decode cX8_init 448 = .ok (.ldc 136, 2) := by decide +kernel
theorem dX8_init_450 : decode cX8_init 450 = .ok (.iastore, 1) := by decide +kernel
theorem dX8_init_451 : decode cX8_init 451 = .ok (.dup, 1) := by decide +kernel
theorem dX8_init_452 : decode cX8_init 452 = .ok (.bipush 32, 2) := by decide +kernel
theorem dX8_init_454 : decode cX8_init 454 = .ok (.ldc 137, 2) := by decide +kernel
theorem dX8_init_456 : decode cX8_init 456 = .ok (.iastore, 1) := by decide +kernel
theorem dX8_init_457 : decode cX8_init 457 = .ok (.dup, 1) := by decide +kernel
theorem dX8_init_458 : decode cX8_init 458 = .ok (.bipush 33, 2) := by decide +kernel
theorem dX8_init_460 : decode cX8_init 460 = .ok (.ldc 138, 2) := by decide +kernel
theorem dX8_init_462 : decode cX8_init 462 = .ok (.iastore, 1) := by decide +kernel
theorem dX8_init_463 : decode cX8_init 463 = .ok (.dup, 1) := by decide +kernel
theorem dX8_init_464 : decode cX8_init 464 = .ok (.bipush 34, 2) := by decide +kernel
theorem dX8_init_466 : decode cX8_init 466 = .ok (.ldc 139, 2) := by decide +kernel
theorem dX8_init_468 : decode cX8_init 468 = .ok (.iastore, 1) := by decide +kernel
theorem dX8_init_469 : decode cX8_init 469 = .ok (.dup, 1) := by decide +kernel
theorem dX8_init_470 : decode cX8_init 470 = .ok (.bipush 35, 2) := by decide +kernel
theorem dX8_init_472 : decode cX8_init 472 = .ok (.ldc 140, 2) := by decide +kernel
theorem dX8_init_474 : decode cX8_init 474 = .ok (.iastore, 1) := by decide +kernel
theorem dX8_init_475 : decode cX8_init 475 = .ok (.dup, 1) := by decide +kernel
theorem dX8_init_476 : decode cX8_init 476 = .ok (.bipush 36, 2) := by decide +kernel
theorem dX8_init_478 : decode cX8_init 478 = .ok (.ldc 141, 2) := by decide +kernel
theorem dX8_init_480 : decode cX8_init 480 = .ok (.iastore, 1) := by decide +kernel
theorem dX8_init_481 : decode cX8_init 481 = .ok (.dup, 1) := by decide +kernel
theorem dX8_init_482 : decode cX8_init 482 = .ok (.bipush 37, 2) := by decide +kernel
theorem dX8_init_484 : decode cX8_init 484 = .ok (.ldc 142, 2) := by decide +kernel
theorem dX8_init_486 : decode cX8_init 486 = .ok (.iastore, 1) := by decide +kernel
theorem dX8_init_487 : decode cX8_init 487 = .ok (.dup, 1) := by decide +kernel
theorem dX8_init_488 : decode cX8_init 488 = .ok (.bipush 38, 2) := by decide +kernel
theorem dX8_init_490 : decode cX8_init 490 = .ok (.ldc 143, 2) := by decide +kernel
theorem dX8_init_492 : decode cX8_init 492 = .ok (.iastore, 1) := by decide +kernel
theorem dX8_init_493 : decode cX8_init 493 = .ok (.dup, 1) := by decide +kernel
theorem dX8_init_494 : decode cX8_init 494 = .ok (.bipush 39, 2) := by decide +kernel
theorem dX8_init_496 : decode cX8_init 496 = .ok (.ldc 144, 2) := by decide +kernel
theorem dX8_init_498 : decode cX8_init 498 = .ok (.iastore, 1) := by decide +kernel
theorem dX8_init_499 : decode cX8_init 499 = .ok (.dup, 1) := by decide +kernel
theorem dX8_init_500 : decode cX8_init 500 = .ok (.bipush 40, 2) := by decide +kernel
theorem dX8_init_502 : decode cX8_init 502 = .ok (.ldc 145, 2) := by decide +kernel
theorem dX8_init_504 : decode cX8_init 504 = .ok (.iastore, 1) := by decide +kernel
theorem dX8_init_505 : decode cX8_init 505 = .ok (.dup, 1) := by decide +kernel
theorem dX8_init_506 : decode cX8_init 506 = .ok (.bipush 41, 2) := by decide +kernel
theorem dX8_init_508 : decode cX8_init 508 = .ok (.ldc 146, 2) := by decide +kernel
theorem dX8_init_510 : decode cX8_init 510 = .ok (.iastore, 1) := by decide +kernel
theorem dX8_init_511 : decode cX8_init 511 = .ok (.dup, 1) := by decide +kernel
theorem dX8_init_512 : decode cX8_init 512 = .ok (.bipush 42, 2) := by decide +kernel
theorem dX8_init_514 : decode cX8_init 514 = .ok (.ldc 147, 2) := by decide +kernel
theorem dX8_init_516 : decode cX8_init 516 = .ok (.iastore, 1) := by decide +kernel
theorem dX8_init_517 : decode cX8_init 517 = .ok (.dup, 1) := by decide +kernel
theorem dX8_init_518 : decode cX8_init 518 = .ok (.bipush 43, 2) := by decide +kernel
theorem dX8_init_520 : decode cX8_init 520 = .ok (.ldc 148, 2) := by decide +kernel
theorem dX8_init_522 : decode cX8_init 522 = .ok (.iastore, 1) := by decide +kernel
theorem dX8_init_523 : decode cX8_init 523 = .ok (.dup, 1) := by decide +kernel
theorem dX8_init_524 : decode cX8_init 524 = .ok (.bipush 44, 2) := by decide +kernel
theorem dX8_init_526 : decode cX8_init 526 = .ok (.ldc 149, 2) := by decide +kernel
theorem dX8_init_528 : decode cX8_init 528 = .ok (.iastore, 1) := by decide +kernel
theorem dX8_init_529 : decode cX8_init 529 = .ok (.dup, 1) := by decide +kernel
theorem dX8_init_530 : decode cX8_init 530 = .ok (.bipush 45, 2) := by decide +kernel
theorem dX8_init_532 : decode cX8_init 532 = .ok (.ldc 150, 2) := by decide +kernel
theorem dX8_init_534 : decode cX8_init 534 = .ok (.iastore, 1) := by decide +kernel
theorem dX8_init_535 : decode cX8_init 535 = .ok (.dup, 1) := by decide +kernel
theorem dX8_init_536 : decode cX8_init 536 = .ok (.bipush 46, 2) := by decide +kernel
theorem dX8_init_538 : decode cX8_init 538 = .ok (.ldc 151, 2) := by decide +kernel
theorem dX8_init_540 : decode cX8_init 540 = .ok (.iastore, 1) := by decide +kernel
theorem dX8_init_541 : decode cX8_init 541 = .ok (.dup, 1) := by decide +kernel
theorem dX8_init_542 : decode cX8_init 542 = .ok (.bipush 47, 2) := by decide +kernel
theorem dX8_init_544 : decode cX8_init 544 = .ok (.ldc 152, 2) := by decide +kernel
theorem dX8_init_546 : decode cX8_init 546 = .ok (.iastore, 1) := by decide +kernel
theorem dX8_init_547 : decode cX8_init 547 = .ok (.dup, 1) := by decide +kernel
theorem dX8_init_548 : decode cX8_init 548 = .ok (.bipush 48, 2) := by decide +kernel
theorem dX8_init_550 : decode cX8_init 550 = .ok (.ldc 153, 2) := by decide +kernel
theorem dX8_init_552 : decode cX8_init 552 = .ok (.iastore, 1) := by decide +kernel
theorem dX8_init_553 : decode cX8_init 553 = .ok (.dup, 1) := by decide +kernel
theorem dX8_init_554 : decode cX8_init 554 = .ok (.bipush 49, 2) := by decide +kernel
theorem dX8_init_556 : decode cX8_init 556 = .ok (.ldc 154, 2) := by decide +kernel
theorem dX8_init_558 : decode cX8_init 558 = .ok (.iastore, 1) := by decide +kernel
theorem dX8_init_559 : decode cX8_init 559 = .ok (.dup, 1) := by decide +kernel
theorem dX8_init_560 : decode cX8_init 560 = .ok (.bipush 50, 2) := by decide +kernel
theorem dX8_init_562 : decode cX8_init 562 = .ok (.ldc 155, 2) := by decide +kernel
theorem dX8_init_564 : decode cX8_init 564 = .ok (.iastore, 1) := by decide +kernel
theorem dX8_init_565 : decode cX8_init 565 = .ok (.dup, 1) := by decide +kernel
theorem dX8_init_566 : decode cX8_init 566 = .ok (.bipush 51, 2) := by decide +kernel
theorem dX8_init_568 : decode cX8_init 568 = .ok (.ldc 156, 2) := by decide +kernel
theorem dX8_init_570 : decode cX8_init 570 = .ok (.iastore, 1) := by decide +kernel
theorem dX8_init_571 : decode cX8_init 571 = .ok (.dup, 1) := by decide +kernel
theorem dX8_init_572 : decode cX8_init 572 = .ok (.bipush 52, 2) := by decide +kernel
theorem dX8_init_574 : decode cX8_init 574 = .ok (.ldc 157, 2) := by decide +kernel
theorem dX8_init_576 : decode cX8_init 576 = .ok (.iastore, 1) := by decide +kernel
theorem dX8_init_577 : decode cX8_init 577 = .ok (.dup, 1) := by decide +kernel
theorem dX8_init_578 : decode cX8_init 578 = .ok (.bipush 53, 2) := by decide +kernel
theorem dX8_init_580 : decode cX8_init 580 = .ok (.ldc 158, 2) := by decide +kernel
theorem dX8_init_582 : decode cX8_init 582 = .ok (.iastore, 1) := by decide +kernel
theorem dX8_init_583 : decode cX8_init 583 = .ok (.dup, 1) := by decide +kernel
theorem dX8_init_584 : decode cX8_init 584 = .ok (.bipush 54, 2) := by decide +kernel
theorem dX8_init_586 : decode cX8_init 586 = .ok (.ldc 159, 2) := by decide +kernel
theorem dX8_init_588 : decode cX8_init 588 = .ok (.iastore, 1) := by decide +kernel
theorem dX8_init_589 : decode cX8_init 589 = .ok (.dup, 1) := by decide +kernel
theorem dX8_init_590 : decode cX8_init 590 = .ok (.bipush 55, 2) := by decide +kernel
theorem dX8_init_592 : decode cX8_init 592 = .ok (.ldc 160, 2) := by decide +kernel
theorem dX8_init_594 : decode cX8_init 594 = .ok (.iastore, 1) := by decide +kernel
theorem dX8_init_595 : decode cX8_init 595 = .ok (.dup, 1) := by decide +kernel
theorem dX8_init_596 : decode cX8_init 596 = .ok (.bipush 56, 2) := by decide +kernel
theorem dX8_init_598 : decode cX8_init 598 = .ok (.ldc 161, 2) := by decide +kernel
theorem dX8_init_600 : decode cX8_init 600 = .ok (.iastore, 1) := by decide +kernel
theorem dX8_init_601 : decode cX8_init 601 = .ok (.dup, 1) := by decide +kernel
theorem dX8_init_602 : decode cX8_init 602 = .ok (.bipush 57, 2) := by decide +kernel
theorem dX8_init_604 : decode cX8_init 604 = .ok (.ldc 162, 2) := by decide +kernel
theorem dX8_init_606 : decode cX8_init 606 = .ok (.iastore, 1) := by decide +kernel
theorem dX8_init_607 : decode cX8_init 607 = .ok (.dup, 1) := by decide +kernel
theorem dX8_init_608 : decode cX8_init 608 = .ok (.bipush 58, 2) := by decide +kernel
theorem dX8_init_610 : decode cX8_init 610 = .ok (.ldc 163, 2) := by decide +kernel
theorem dX8_init_612 : decode cX8_init 612 = .ok (.iastore, 1) := by decide +kernel
theorem dX8_init_613 : decode cX8_init 613 = .ok (.dup, 1) := by decide +kernel
theorem dX8_init_614 : decode cX8_init 614 = .ok (.bipush 59, 2) := by decide +kernel
theorem dX8_init_616 : decode cX8_init 616 = .ok (.ldc 164, 2) := by decide +kernel
theorem dX8_init_618 : decode cX8_init 618 = .ok (.iastore, 1) := by decide +kernel
theorem dX8_init_619 : decode cX8_init 619 = .ok (.dup, 1) := by decide +kernel
theorem dX8_init_620 : decode cX8_init 620 = .ok (.bipush 60, 2) := by decide +kernel
theorem dX8_init_622 : decode cX8_init 622 = .ok (.ldc 165, 2) := by decide +kernel
theorem dX8_init_624 : decode cX8_init 624 = .ok (.iastore, 1) := by decide +kernel
theorem dX8_init_625 : decode cX8_init 625 = .ok (.dup, 1) := by decide +kernel
theorem dX8_init_626 : decode cX8_init 626 = .ok (.bipush 61, 2) := by decide +kernel
theorem dX8_init_628 : decode cX8_init 628 = .ok (.ldc 166, 2) := by decide +kernel
theorem dX8_init_630 : decode cX8_init 630 = .ok (.iastore, 1) := by decide +kernel
theorem dX8_init_631 : decode cX8_init 631 = .ok (.dup, 1) := by decide +kernel
theorem dX8_init_632 : decode cX8_init 632 = .ok (.bipush 62, 2) := by decide +kernel
theorem dX8_init_634 : decode cX8_init 634 = .ok (.ldc 167, 2) := by decide +kernel
theorem dX8_init_636 : decode cX8_init 636 = .ok (.iastore, 1) := by decide +kernel
theorem dX8_init_637 : decode cX8_init 637 = .ok (.dup, 1) := by decide +kernel
theorem dX8_init_638 : decode cX8_init 638 = .ok (.bipush 63, 2) := by decide +kernel
theorem dX8_init_640 : decode cX8_init 640 = .ok (.ldc 168, 2) := by decide +kernel
theorem dX8_init_642 : decode cX8_init 642 = .ok (.iastore, 1) := by decide +kernel
theorem dX8_init_643 : decode cX8_init 643 = .ok (.putfield 169, 3) := by decide +kernel
theorem dX8_init_646 : decode cX8_init 646 = .ok (.aload_n 0, 1) := by decide +kernel
theorem dX8_init_647 : decode cX8_init 647 = .ok (.bipush 8, 2) := by decide +kernel
theorem dX8_init_649 : decode cX8_init 649 = .ok (.newarray .int, 2) := by decide +kernel
theorem dX8_init_651 : decode cX8_init 651 = .ok (.putfield 172, 3) := by decide +kernel
theorem dX8_init_654 : decode cX8_init 654 = .ok (.aload_n 0, 1) := by decide +kernel
theorem dX8_init_655 : decode cX8_init 655 = .ok (.bipush 8, 2) := by decide +kernel
theorem dX8_init_657 : decode cX8_init 657 = .ok (.newarray .int, 2) := by decide +kernel
theorem dX8_init_659 : decode cX8_init 659 = .ok (.dup, 1) := by decide +kernel
theorem dX8_init_660 : decode cX8_init 660 = .ok (.iconst 0, 1) := by decide +kernel
theorem dX8_init_661 : decode cX8_init 661 = .ok (.ldc 175, 2) := by decide +kernel
theorem dX8_init_663 : decode cX8_init 663 = .ok (.iastore, 1) := by decide +kernel
theorem dX8_init_664 : decode cX8_init 664 = .ok (.dup, 1) := by decide +kernel
theorem dX8_init_665 : decode cX8_init 665 = .ok (.iconst 1, 1) := by decide +kernel
theorem dX8_init_666 : decode cX8_init 666 = .ok (.ldc 176, 2) := by decide +kernel
theorem dX8_init_668 : decode cX8_init 668 = .ok (.iastore, 1) := by decide +kernel
theorem dX8_init_669 : decode cX8_init 669 = .ok (.dup, 1) := by decide +kernel
theorem dX8_init_670 : decode cX8_init 670 = .ok (.iconst 2, 1) := by decide +kernel
theorem dX8_init_671 : decode cX8_init 671 = .ok (.ldc 177, 2) := by decide +kernel
theorem dX8_init_673 : decode cX8_init 673 = .ok (.iastore, 1) := by decide +kernel
theorem dX8_init_674 : decode cX8_init 674 = .ok (.dup, 1) := by decide +kernel
theorem dX8_init_675 : decode cX8_init 675 = .ok (.iconst 3, 1) := by decide +kernel
theorem dX8_init_676 : decode cX8_init 676 = .ok (.ldc 178, 2) := by decide +kernel
theorem dX8_init_678 : decode cX8_init 678 = .ok (.iastore, 1) := by decide +kernel
theorem dX8_init_679 : decode cX8_init 679 = .ok (.dup, 1) := by decide +kernel
theorem dX8_init_680 : decode cX8_init 680 = .ok (.iconst 4, 1) := by decide +kernel
theorem dX8_init_681 : decode cX8_init 681 = .ok (.ldc 179, 2) := by decide +kernel
theorem dX8_init_683 : decode cX8_init 683 = .ok (.iastore, 1) := by decide +kernel
theorem dX8_init_684 : decode cX8_init 684 = .ok (.dup, 1) := by decide +kernel
theorem dX8_init_685 : decode cX8_init 685 = .ok (.iconst 5, 1) := by decide +kernel
theorem dX8_init_686 : decode cX8_init 686 = .ok (.ldc 180, 2) := by decide +kernel
theorem dX8_init_688 : decode cX8_init 688 = .ok (.iastore, 1) := by decide +kernel
theorem dX8_init_689 : decode cX8_init 689 = .ok (.dup, 1) := by decide +kernel
theorem dX8_init_690 : decode cX8_init 690 = .ok (.bipush 6, 2) := by decide +kernel
theorem dX8_init_692 : decode cX8_init 692 = .ok (.ldc 181, 2) := by decide +kernel
theorem dX8_init_694 : decode cX8_init 694 = .ok (.iastore, 1) := by decide +kernel
theorem dX8_init_695 : decode cX8_init 695 = .ok (.dup, 1) := by decide +kernel
theorem dX8_init_696 : decode cX8_init 696 = .ok (.bipush 7, 2) := by decide +kernel
theorem dX8_init_698 : decode cX8_init 698 = .ok (.ldc 182, 2) := by decide +kernel
theorem dX8_init_700 : decode cX8_init 700 = .ok (.iastore, 1) := by decide +kernel
theorem dX8_init_701 : decode cX8_init 701 = .ok (.putfield 183, 3) := by decide +kernel
theorem dX8_init_704 : decode cX8_init 704 = .ok (.aload_n 0, 1) := by decide +kernel
theorem dX8_init_705 : decode cX8_init 705 = .ok (.iconst 4, 1) := by decide +kernel
theorem dX8_init_706 : decode cX8_init 706 = .ok (.invokevirtual 186, 3) := by decide +kernel
theorem dX8_init_709 : decode cX8_init 709 = .ok (.return_, 1) := by decide +kernel
theorem dX8_thrown_0 : decode cX8_thrown 0 = .ok (.aload_n 0, 1) := by decide +kernel
theorem dX8_thrown_1 : decode cX8_thrown 1 = .ok (.getfield 190, 3) := by decide +kernel
theorem dX8_thrown_4 : decode cX8_thrown 4 = .ok (.ireturn, 1) := by decide +kernel
theorem dX8_in_0 : decode cX8_in 0 = .ok (.iload_n 0, 1) := by decide +kernel
theorem dX8_in_1 : decode cX8_in 1 = .ok (.iload_n 1, 1) := by decide +kernel
theorem dX8_in_2 : decode cX8_in 2 = .ok (.if_icmp .lt 12, 3) := by decide +kernel
theorem dX8_in_5 : decode cX8_in 5 = .ok (.iload_n 0, 1) := by decide +kernel
theorem dX8_in_6 : decode cX8_in 6 = .ok (.iload_n 2, 1) := by decide +kernel
theorem dX8_in_7 : decode cX8_in 7 = .ok (.if_icmp .gt 7, 3) := by decide +kernel
theorem dX8_in_10 : decode cX8_in 10 = .ok (.iconst 1, 1) := by decide +kernel
theorem dX8_in_11 : decode cX8_in 11 = .ok (.goto 4, 3) := by decide +kernel
theorem dX8_in_14 : decode cX8_in 14 = .ok (.iconst 0, 1) := by decide +kernel
theorem dX8_in_15 : decode cX8_in 15 = .ok (.ireturn, 1) := by decide +kernel
theorem dX8_fails_0 : decode cX8_fails 0 = .ok (.iload_n 1, 1) := by decide +kernel
theorem dX8_fails_1 : decode cX8_fails 1 = .ok (.ifCond .eq 15, 3) := by decide +kernel
theorem dX8_fails_4 : decode cX8_fails 4 = .ok (.aload_n 0, 1) := by decide +kernel
theorem dX8_fails_5 : decode cX8_fails 5 = .ok (.getfield 190, 3) := by decide +kernel
theorem dX8_fails_8 : decode cX8_fails 8 = .ok (.ifCond .ne 8, 3) := by decide +kernel
theorem dX8_fails_11 : decode cX8_fails 11 = .ok (.aload_n 0, 1) := by decide +kernel
theorem dX8_fails_12 : decode cX8_fails 12 = .ok (.iload_n 2, 1) := by decide +kernel
theorem dX8_fails_13 : decode cX8_fails 13 = .ok (.putfield 190, 3) := by decide +kernel
theorem dX8_fails_16 : decode cX8_fails 16 = .ok (.aload_n 0, 1) := by decide +kernel
theorem dX8_fails_17 : decode cX8_fails 17 = .ok (.getfield 190, 3) := by decide +kernel
theorem dX8_fails_20 : decode cX8_fails 20 = .ok (.ifCond .eq 7, 3) := by decide +kernel
theorem dX8_fails_23 : decode cX8_fails 23 = .ok (.iconst 1, 1) := by decide +kernel
theorem dX8_fails_24 : decode cX8_fails 24 = .ok (.goto 4, 3) := by decide +kernel
theorem dX8_fails_27 : decode cX8_fails 27 = .ok (.iconst 0, 1) := by decide +kernel
theorem dX8_fails_28 : decode cX8_fails 28 = .ok (.ireturn, 1) := by decide +kernel
theorem dX8_isNode_0 : decode cX8_isNode 0 = .ok (.iload_n 1, 1) := by decide +kernel
theorem dX8_isNode_1 : decode cX8_isNode 1 = .ok (.iconst 0, 1) := by decide +kernel
theorem dX8_isNode_2 : decode cX8_isNode 2 = .ok (.aload_n 0, 1) := by decide +kernel
theorem dX8_isNode_3 : decode cX8_isNode 3 = .ok (.getfield 193, 3) := by decide +kernel
theorem dX8_isNode_6 : decode cX8_isNode 6 = .ok (.iconst 1, 1) := by decide +kernel
theorem dX8_isNode_7 : decode cX8_isNode 7 = .ok (.isub, 1) := by decide +kernel
theorem dX8_isNode_8 : decode cX8_isNode 8 = .ok (.invokestatic 196, 3) := by decide +kernel
theorem dX8_isNode_11 : decode cX8_isNode 11 = .ok (.ireturn, 1) := by decide +kernel
theorem dX8_isEvent_0 : decode cX8_isEvent 0 = .ok (.iload_n 1, 1) := by decide +kernel
theorem dX8_isEvent_1 : decode cX8_isEvent 1 = .ok (.iconst 0, 1) := by decide +kernel
theorem dX8_isEvent_2 : decode cX8_isEvent 2 = .ok (.aload_n 0, 1) := by decide +kernel
theorem dX8_isEvent_3 : decode cX8_isEvent 3 = .ok (.getfield 200, 3) := by decide +kernel
theorem dX8_isEvent_6 : decode cX8_isEvent 6 = .ok (.iconst 1, 1) := by decide +kernel
theorem dX8_isEvent_7 : decode cX8_isEvent 7 = .ok (.isub, 1) := by decide +kernel
theorem dX8_isEvent_8 : decode cX8_isEvent 8 = .ok (.invokestatic 196, 3) := by decide +kernel
theorem dX8_isEvent_11 : decode cX8_isEvent 11 = .ok (.ireturn, 1) := by decide +kernel
theorem dX8_begin_0 : decode cX8_begin 0 = .ok (.aload_n 0, 1) := by decide +kernel
theorem dX8_begin_1 : decode cX8_begin 1 = .ok (.iconst 0, 1) := by decide +kernel
theorem dX8_begin_2 : decode cX8_begin 2 = .ok (.putfield 190, 3) := by decide +kernel
theorem dX8_begin_5 : decode cX8_begin 5 = .ok (.aload_n 0, 1) := by decide +kernel
theorem dX8_begin_6 : decode cX8_begin 6 = .ok (.iload_n 1, 1) := by decide +kernel
theorem dX8_begin_7 : decode cX8_begin 7 = .ok (.iconst 2, 1) := by decide +kernel
theorem dX8_begin_8 : decode cX8_begin 8 = .ok (.bipush 8, 2) := by decide +kernel
theorem dX8_begin_10 : decode cX8_begin 10 = .ok (.invokestatic 196, 3) := by decide +kernel
theorem dX8_begin_13 : decode cX8_begin 13 = .ok (.ifCond .ne 7, 3) := by decide +kernel
theorem dX8_begin_16 : decode cX8_begin 16 = .ok (.iconst 1, 1) := by decide +kernel
theorem dX8_begin_17 : decode cX8_begin 17 = .ok (.goto 4, 3) := by decide +kernel
theorem dX8_begin_20 : decode cX8_begin 20 = .ok (.iconst 0, 1) := by decide +kernel
theorem dX8_begin_21 : decode cX8_begin 21 = .ok (.iconst 1, 1) := by decide +kernel
theorem dX8_begin_22 : decode cX8_begin 22 = .ok (.invokevirtual 203, 3) := by decide +kernel
theorem dX8_begin_25 : decode cX8_begin 25 = .ok (.ifCond .ne 8, 3) := by decide +kernel
theorem dX8_begin_28 : decode cX8_begin 28 = .ok (.aload_n 0, 1) := by decide +kernel
theorem dX8_begin_29 : decode cX8_begin 29 = .ok (.iload_n 1, 1) := by decide +kernel
theorem dX8_begin_30 : decode cX8_begin 30 = .ok (.invokevirtual 186, 3) := by decide +kernel
theorem dX8_begin_33 : decode cX8_begin 33 = .ok (.return_, 1) := by decide +kernel
theorem dX8_anew_0 : decode cX8_anew 0 = .ok (.aload_n 0, 1) := by decide +kernel
theorem dX8_anew_1 : decode cX8_anew 1 = .ok (.iload_n 1, 1) := by decide +kernel
theorem dX8_anew_2 : decode cX8_anew 2 = .ok (.putfield 193, 3) := by decide +kernel
theorem dX8_anew_5 : decode cX8_anew 5 = .ok (.aload_n 0, 1) := by decide +kernel
theorem dX8_anew_6 : decode cX8_anew 6 = .ok (.iconst 0, 1) := by decide +kernel
theorem dX8_anew_7 : decode cX8_anew 7 = .ok (.putfield 200, 3) := by decide +kernel
theorem dX8_anew_10 : decode cX8_anew 10 = .ok (.aload_n 0, 1) := by decide +kernel
theorem dX8_anew_11 : decode cX8_anew 11 = .ok (.iconst (-1), 1) := by decide +kernel
theorem dX8_anew_12 : decode cX8_anew 12 = .ok (.putfield 71, 3) := by decide +kernel
theorem dX8_anew_15 : decode cX8_anew 15 = .ok (.iconst 0, 1) := by decide +kernel
theorem dX8_anew_16 : decode cX8_anew 16 = .ok (.istore_n 2, 1) := by decide +kernel
theorem dX8_anew_17 : decode cX8_anew 17 = .ok (.iload_n 2, 1) := by decide +kernel
theorem dX8_anew_18 : decode cX8_anew 18 = .ok (.sipush 1920, 3) := by decide +kernel
theorem dX8_anew_21 : decode cX8_anew 21 = .ok (.if_icmp .ge 16, 3) := by decide +kernel
theorem dX8_anew_24 : decode cX8_anew 24 = .ok (.aload_n 0, 1) := by decide +kernel
theorem dX8_anew_25 : decode cX8_anew 25 = .ok (.getfield 55, 3) := by decide +kernel
theorem dX8_anew_28 : decode cX8_anew 28 = .ok (.iload_n 2, 1) := by decide +kernel
theorem dX8_anew_29 : decode cX8_anew 29 = .ok (.iconst 0, 1) := by decide +kernel
theorem dX8_anew_30 : decode cX8_anew 30 = .ok (.bastore, 1) := by decide +kernel
theorem dX8_anew_31 : decode cX8_anew 31 = .ok (.iinc 2 1, 3) := by decide +kernel
theorem dX8_anew_34 : decode cX8_anew 34 = .ok (.goto (-17), 3) := by decide +kernel
theorem dX8_anew_37 : decode cX8_anew 37 = .ok (.iconst 0, 1) := by decide +kernel
theorem dX8_anew_38 : decode cX8_anew 38 = .ok (.istore_n 2, 1) := by decide +kernel
theorem dX8_anew_39 : decode cX8_anew 39 = .ok (.iload_n 2, 1) := by decide +kernel
theorem dX8_anew_40 : decode cX8_anew 40 = .ok (.ldc 50, 2) := by decide +kernel
theorem dX8_anew_42 : decode cX8_anew 42 = .ok (.if_icmp .ge 30, 3) := by decide +kernel
theorem dX8_anew_45 : decode cX8_anew 45 = .ok (.aload_n 0, 1) := by decide +kernel
theorem dX8_anew_46 : decode cX8_anew 46 = .ok (.getfield 51, 3) := by decide +kernel
theorem dX8_anew_49 : decode cX8_anew 49 = .ok (.iload_n 2, 1) := by decide +kernel
theorem dX8_anew_50 : decode cX8_anew 50 = .ok (.iconst 0, 1) := by decide +kernel
theorem dX8_anew_51 : decode cX8_anew 51 = .ok (.bastore, 1) := by decide +kernel
theorem dX8_anew_52 : decode cX8_anew 52 = .ok (.aload_n 0, 1) := by decide +kernel
theorem dX8_anew_53 : decode cX8_anew 53 = .ok (.getfield 64, 3) := by decide +kernel
theorem dX8_anew_56 : decode cX8_anew 56 = .ok (.iload_n 2, 1) := by decide +kernel
theorem dX8_anew_57 : decode cX8_anew 57 = .ok (.iconst 0, 1) := by decide +kernel
theorem dX8_anew_58 : decode cX8_anew 58 = .ok (.bastore, 1) := by decide +kernel
theorem dX8_anew_59 : decode cX8_anew 59 = .ok (.aload_n 0, 1) := by decide +kernel
theorem dX8_anew_60 : decode cX8_anew 60 = .ok (.getfield 68, 3) := by decide +kernel
theorem dX8_anew_63 : decode cX8_anew 63 = .ok (.iload_n 2, 1) := by decide +kernel
theorem dX8_anew_64 : decode cX8_anew 64 = .ok (.iconst 0, 1) := by decide +kernel
theorem dX8_anew_65 : decode cX8_anew 65 = .ok (.bastore, 1) := by decide +kernel
theorem dX8_anew_66 : decode cX8_anew 66 = .ok (.iinc 2 1, 3) := by decide +kernel
theorem dX8_anew_69 : decode cX8_anew 69 = .ok (.goto (-30), 3) := by decide +kernel
theorem dX8_anew_72 : decode cX8_anew 72 = .ok (.iconst 0, 1) := by decide +kernel
theorem dX8_anew_73 : decode cX8_anew 73 = .ok (.istore_n 2, 1) := by decide +kernel
theorem dX8_anew_74 : decode cX8_anew 74 = .ok (.iload_n 2, 1) := by decide +kernel
theorem dX8_anew_75 : decode cX8_anew 75 = .ok (.aload_n 0, 1) := by decide +kernel
theorem dX8_anew_76 : decode cX8_anew 76 = .ok (.getfield 193, 3) := by decide +kernel
theorem dX8_anew_79 : decode cX8_anew 79 = .ok (.if_icmp .ge 48, 3) := by decide +kernel
theorem dX8_anew_82 : decode cX8_anew 82 = .ok (.aload_n 0, 1) := by decide +kernel
theorem dX8_anew_83 : decode cX8_anew 83 = .ok (.getfield 37, 3) := by decide +kernel
theorem dX8_anew_86 : decode cX8_anew 86 = .ok (.iload_n 2, 1) := by decide +kernel
theorem dX8_anew_87 : decode cX8_anew 87 = .ok (.iconst 0, 1) := by decide +kernel
theorem dX8_anew_88 : decode cX8_anew 88 = .ok (.iastore, 1) := by decide +kernel
theorem dX8_anew_89 : decode cX8_anew 89 = .ok (.aload_n 0, 1) := by decide +kernel
theorem dX8_anew_90 : decode cX8_anew 90 = .ok (.getfield 34, 3) := by decide +kernel
theorem dX8_anew_93 : decode cX8_anew 93 = .ok (.iload_n 2, 1) := by decide +kernel
theorem dX8_anew_94 : decode cX8_anew 94 = .ok (.aload_n 0, 1) := by decide +kernel
theorem dX8_anew_95 : decode cX8_anew 95 = .ok (.iload_n 2, 1) := by decide +kernel
theorem dX8_anew_96 : decode cX8_anew 96 = .ok (.iconst (-1), 1) := by decide +kernel
theorem dX8_anew_97 : decode cX8_anew 97 = .ok (.iconst (-1), 1) := by decide +kernel
theorem dX8_anew_98 : decode cX8_anew 98 = .ok (.lconst 0, 1) := by decide +kernel
theorem dX8_anew_99 : decode cX8_anew 99 = .ok (.invokevirtual 207, 3) := by decide +kernel
theorem dX8_anew_102 : decode cX8_anew 102 = .ok (.iastore, 1) := by decide +kernel
theorem dX8_anew_103 : decode cX8_anew 103 = .ok (.aload_n 0, 1) := by decide +kernel
theorem dX8_anew_104 : decode cX8_anew 104 = .ok (.getfield 55, 3) := by decide +kernel
theorem dX8_anew_107 : decode cX8_anew 107 = .ok (.sipush 240, 3) := by decide +kernel
theorem dX8_anew_110 : decode cX8_anew 110 = .ok (.iload_n 2, 1) := by decide +kernel
theorem dX8_anew_111 : decode cX8_anew 111 = .ok (.imul, 1) := by decide +kernel
theorem dX8_anew_112 : decode cX8_anew 112 = .ok (.aload_n 0, 1) := by decide +kernel
theorem dX8_anew_113 : decode cX8_anew 113 = .ok (.getfield 34, 3) := by decide +kernel
theorem dX8_anew_116 : decode cX8_anew 116 = .ok (.iload_n 2, 1) := by decide +kernel
theorem dX8_anew_117 : decode cX8_anew 117 = .ok (.iaload, 1) := by decide +kernel
theorem dX8_anew_118 : decode cX8_anew 118 = .ok (.iadd, 1) := by decide +kernel
theorem dX8_anew_119 : decode cX8_anew 119 = .ok (.iconst 1, 1) := by decide +kernel
theorem dX8_anew_120 : decode cX8_anew 120 = .ok (.bastore, 1) := by decide +kernel
theorem dX8_anew_121 : decode cX8_anew 121 = .ok (.iinc 2 1, 3) := by decide +kernel
theorem dX8_anew_124 : decode cX8_anew 124 = .ok (.goto (-50), 3) := by decide +kernel
theorem dX8_anew_127 : decode cX8_anew 127 = .ok (.return_, 1) := by decide +kernel
theorem dX8_make_0 : decode cX8_make 0 = .ok (.aload_n 0, 1) := by decide +kernel
theorem dX8_make_1 : decode cX8_make 1 = .ok (.dup, 1) := by decide +kernel
theorem dX8_make_2 : decode cX8_make 2 = .ok (.getfield 200, 3) := by decide +kernel
theorem dX8_make_5 : decode cX8_make 5 = .ok (.dup_x1, 1) := by decide +kernel
theorem dX8_make_6 : decode cX8_make 6 = .ok (.iconst 1, 1) := by decide +kernel
theorem dX8_make_7 : decode cX8_make 7 = .ok (.iadd, 1) := by decide +kernel
theorem dX8_make_8 : decode cX8_make 8 = .ok (.putfield 200, 3) := by decide +kernel
theorem dX8_make_11 : decode cX8_make 11 = .ok (.istore 6, 2) := by decide +kernel
theorem dX8_make_13 : decode cX8_make 13 = .ok (.aload_n 0, 1) := by decide +kernel
theorem dX8_make_14 : decode cX8_make 14 = .ok (.getfield 9, 3) := by decide +kernel
theorem dX8_make_17 : decode cX8_make 17 = .ok (.iload 6, 2) := by decide +kernel
theorem dX8_make_19 : decode cX8_make 19 = .ok (.iload_n 1, 1) := by decide +kernel
theorem dX8_make_20 : decode cX8_make 20 = .ok (.iastore, 1) := by decide +kernel
theorem dX8_make_21 : decode cX8_make 21 = .ok (.aload_n 0, 1) := by decide +kernel
theorem dX8_make_22 : decode cX8_make 22 = .ok (.getfield 13, 3) := by decide +kernel
theorem dX8_make_25 : decode cX8_make 25 = .ok (.iload 6, 2) := by decide +kernel
theorem dX8_make_27 : decode cX8_make 27 = .ok (.iload_n 2, 1) := by decide +kernel
theorem dX8_make_28 : decode cX8_make 28 = .ok (.iastore, 1) := by decide +kernel
theorem dX8_make_29 : decode cX8_make 29 = .ok (.aload_n 0, 1) := by decide +kernel
theorem dX8_make_30 : decode cX8_make 30 = .ok (.getfield 16, 3) := by decide +kernel
theorem dX8_make_33 : decode cX8_make 33 = .ok (.iload 6, 2) := by decide +kernel
theorem dX8_make_35 : decode cX8_make 35 = .ok (.iload_n 3, 1) := by decide +kernel
theorem dX8_make_36 : decode cX8_make 36 = .ok (.iastore, 1) := by decide +kernel
theorem dX8_make_37 : decode cX8_make 37 = .ok (.aload_n 0, 1) := by decide +kernel
theorem dX8_make_38 : decode cX8_make 38 = .ok (.getfield 46, 3) := by decide +kernel
theorem dX8_make_41 : decode cX8_make 41 = .ok (.iload 6, 2) := by decide +kernel
theorem dX8_make_43 : decode cX8_make 43 = .ok (.lload 4, 2) := by decide +kernel
theorem dX8_make_45 : decode cX8_make 45 = .ok (.lastore, 1) := by decide +kernel
theorem dX8_make_46 : decode cX8_make 46 = .ok (.iload_n 2, 1) := by decide +kernel
theorem dX8_make_47 : decode cX8_make 47 = .ok (.ifCond .ge 11, 3) := by decide +kernel
theorem dX8_make_50 : decode cX8_make 50 = .ok (.aload_n 0, 1) := by decide +kernel
theorem dX8_make_51 : decode cX8_make 51 = .ok (.getfield 19, 3) := by decide +kernel
theorem dX8_make_54 : decode cX8_make 54 = .ok (.iload 6, 2) := by decide +kernel
theorem dX8_make_56 : decode cX8_make 56 = .ok (.iconst 0, 1) := by decide +kernel
theorem dX8_make_57 : decode cX8_make 57 = .ok (.iastore, 1) := by decide +kernel
theorem dX8_make_58 : decode cX8_make 58 = .ok (.aload_n 0, 1) := by decide +kernel
theorem dX8_make_59 : decode cX8_make 59 = .ok (.iload 6, 2) := by decide +kernel
theorem dX8_make_61 : decode cX8_make 61 = .ok (.invokevirtual 211, 3) := by decide +kernel
theorem dX8_make_64 : decode cX8_make 64 = .ok (.iconst 0, 1) := by decide +kernel
theorem dX8_make_65 : decode cX8_make 65 = .ok (.istore 7, 2) := by decide +kernel
theorem dX8_make_67 : decode cX8_make 67 = .ok (.iload 7, 2) := by decide +kernel
theorem dX8_make_69 : decode cX8_make 69 = .ok (.iload 6, 2) := by decide +kernel
theorem dX8_make_71 : decode cX8_make 71 = .ok (.if_icmp .ge 68, 3) := by decide +kernel
theorem dX8_make_74 : decode cX8_make 74 = .ok (.aload_n 0, 1) := by decide +kernel
theorem dX8_make_75 : decode cX8_make 75 = .ok (.getfield 51, 3) := by decide +kernel
theorem dX8_make_78 : decode cX8_make 78 = .ok (.sipush 240, 3) := by decide +kernel
theorem dX8_make_81 : decode cX8_make 81 = .ok (.iload 6, 2) := by decide +kernel
theorem dX8_make_83 : decode cX8_make 83 = .ok (.imul, 1) := by decide +kernel
theorem dX8_make_84 : decode cX8_make 84 = .ok (.iload 7, 2) := by decide +kernel
theorem dX8_make_86 : decode cX8_make 86 = .ok (.iadd, 1) := by decide +kernel
theorem dX8_make_87 : decode cX8_make 87 = .ok (.iload_n 2, 1) := by decide +kernel
theorem dX8_make_88 : decode cX8_make 88 = .ok (.ifCond .lt 19, 3) := by decide +kernel
theorem dX8_make_91 : decode cX8_make 91 = .ok (.aload_n 0, 1) := by decide +kernel
theorem dX8_make_92 : decode cX8_make 92 = .ok (.getfield 51, 3) := by decide +kernel
theorem dX8_make_95 : decode cX8_make 95 = .ok (.sipush 240, 3) := by decide +kernel
theorem dX8_make_98 : decode cX8_make 98 = .ok (.iload_n 2, 1) := by decide +kernel
theorem dX8_make_99 : decode cX8_make 99 = .ok (.imul, 1) := by decide +kernel
theorem dX8_make_100 : decode cX8_make 100 = .ok (.iload 7, 2) := by decide +kernel
theorem dX8_make_102 : decode cX8_make 102 = .ok (.iadd, 1) := by decide +kernel
theorem dX8_make_103 : decode cX8_make 103 = .ok (.baload, 1) := by decide +kernel
theorem dX8_make_104 : decode cX8_make 104 = .ok (.ifCond .ne 23, 3) := by decide +kernel
theorem dX8_make_107 : decode cX8_make 107 = .ok (.iload_n 3, 1) := by decide +kernel
theorem dX8_make_108 : decode cX8_make 108 = .ok (.ifCond .lt 23, 3) := by decide +kernel
theorem dX8_make_111 : decode cX8_make 111 = .ok (.aload_n 0, 1) := by decide +kernel
theorem dX8_make_112 : decode cX8_make 112 = .ok (.getfield 51, 3) := by decide +kernel
theorem dX8_make_115 : decode cX8_make 115 = .ok (.sipush 240, 3) := by decide +kernel
theorem dX8_make_118 : decode cX8_make 118 = .ok (.iload_n 3, 1) := by decide +kernel
theorem dX8_make_119 : decode cX8_make 119 = .ok (.imul, 1) := by decide +kernel
theorem dX8_make_120 : decode cX8_make 120 = .ok (.iload 7, 2) := by decide +kernel
theorem dX8_make_122 : decode cX8_make 122 = .ok (.iadd, 1) := by decide +kernel
theorem dX8_make_123 : decode cX8_make 123 = .ok (.baload, 1) := by decide +kernel
theorem dX8_make_124 : decode cX8_make 124 = .ok (.ifCond .eq 7, 3) := by decide +kernel
theorem dX8_make_127 : decode cX8_make 127 = .ok (.iconst 1, 1) := by decide +kernel
theorem dX8_make_128 : decode cX8_make 128 = .ok (.goto 4, 3) := by decide +kernel
theorem dX8_make_131 : decode cX8_make 131 = .ok (.iconst 0, 1) := by decide +kernel
theorem dX8_make_132 : decode cX8_make 132 = .ok (.bastore, 1) := by decide +kernel
theorem dX8_make_133 : decode cX8_make 133 = .ok (.iinc 7 1, 3) := by decide +kernel
theorem dX8_make_136 : decode cX8_make 136 = .ok (.goto (-69), 3) := by decide +kernel
theorem dX8_make_139 : decode cX8_make 139 = .ok (.aload_n 0, 1) := by decide +kernel
theorem dX8_make_140 : decode cX8_make 140 = .ok (.getfield 51, 3) := by decide +kernel
theorem dX8_make_143 : decode cX8_make 143 = .ok (.sipush 240, 3) := by decide +kernel
theorem dX8_make_146 : decode cX8_make 146 = .ok (.iload 6, 2) := by decide +kernel
theorem dX8_make_148 : decode cX8_make 148 = .ok (.imul, 1) := by decide +kernel
theorem dX8_make_149 : decode cX8_make 149 = .ok (.iload 6, 2) := by decide +kernel
theorem dX8_make_151 : decode cX8_make 151 = .ok (.iadd, 1) := by decide +kernel
theorem dX8_make_152 : decode cX8_make 152 = .ok (.iconst 1, 1) := by decide +kernel
theorem dX8_make_153 : decode cX8_make 153 = .ok (.bastore, 1) := by decide +kernel
theorem dX8_make_154 : decode cX8_make 154 = .ok (.iconst 0, 1) := by decide +kernel
theorem dX8_make_155 : decode cX8_make 155 = .ok (.istore 7, 2) := by decide +kernel
theorem dX8_make_157 : decode cX8_make 157 = .ok (.iload 7, 2) := by decide +kernel
theorem dX8_make_159 : decode cX8_make 159 = .ok (.aload_n 0, 1) := by decide +kernel
theorem dX8_make_160 : decode cX8_make 160 = .ok (.getfield 193, 3) := by decide +kernel
theorem dX8_make_163 : decode cX8_make 163 = .ok (.if_icmp .ge 30, 3) := by decide +kernel
theorem dX8_make_166 : decode cX8_make 166 = .ok (.aload_n 0, 1) := by decide +kernel
theorem dX8_make_167 : decode cX8_make 167 = .ok (.getfield 58, 3) := by decide +kernel
theorem dX8_make_170 : decode cX8_make 170 = .ok (.bipush 8, 2) := by decide +kernel
theorem dX8_make_172 : decode cX8_make 172 = .ok (.iload 6, 2) := by decide +kernel
theorem dX8_make_174 : decode cX8_make 174 = .ok (.imul, 1) := by decide +kernel
theorem dX8_make_175 : decode cX8_make 175 = .ok (.iload 7, 2) := by decide +kernel
theorem dX8_make_177 : decode cX8_make 177 = .ok (.iadd, 1) := by decide +kernel
theorem dX8_make_178 : decode cX8_make 178 = .ok (.aload_n 0, 1) := by decide +kernel
theorem dX8_make_179 : decode cX8_make 179 = .ok (.iload 6, 2) := by decide +kernel
theorem dX8_make_181 : decode cX8_make 181 = .ok (.iload 7, 2) := by decide +kernel
theorem dX8_make_183 : decode cX8_make 183 = .ok (.invokevirtual 214, 3) := by decide +kernel
theorem dX8_make_186 : decode cX8_make 186 = .ok (.bastore, 1) := by decide +kernel
theorem dX8_make_187 : decode cX8_make 187 = .ok (.iinc 7 1, 3) := by decide +kernel
theorem dX8_make_190 : decode cX8_make 190 = .ok (.goto (-33), 3) := by decide +kernel
theorem dX8_make_193 : decode cX8_make 193 = .ok (.iconst 1, 1) := by decide +kernel
theorem dX8_make_194 : decode cX8_make 194 = .ok (.istore 7, 2) := by decide +kernel
theorem dX8_make_196 : decode cX8_make 196 = .ok (.iload_n 2, 1) := by decide +kernel
theorem dX8_make_197 : decode cX8_make 197 = .ok (.ifCond .lt 120, 3) := by decide +kernel
theorem dX8_make_200 : decode cX8_make 200 = .ok (.iload_n 3, 1) := by decide +kernel
theorem dX8_make_201 : decode cX8_make 201 = .ok (.ifCond .lt 27, 3) := by decide +kernel
theorem dX8_make_204 : decode cX8_make 204 = .ok (.aload_n 0, 1) := by decide +kernel
theorem dX8_make_205 : decode cX8_make 205 = .ok (.getfield 28, 3) := by decide +kernel
theorem dX8_make_208 : decode cX8_make 208 = .ok (.iload_n 3, 1) := by decide +kernel
theorem dX8_make_209 : decode cX8_make 209 = .ok (.iaload, 1) := by decide +kernel
theorem dX8_make_210 : decode cX8_make 210 = .ok (.aload_n 0, 1) := by decide +kernel
theorem dX8_make_211 : decode cX8_make 211 = .ok (.getfield 28, 3) := by decide +kernel
theorem dX8_make_214 : decode cX8_make 214 = .ok (.iload_n 2, 1) := by decide +kernel
theorem dX8_make_215 : decode cX8_make 215 = .ok (.iaload, 1) := by decide +kernel
theorem dX8_make_216 : decode cX8_make 216 = .ok (.if_icmp .le 12, 3) := by decide +kernel
theorem dX8_make_219 : decode cX8_make 219 = .ok (.aload_n 0, 1) := by decide +kernel
theorem dX8_make_220 : decode cX8_make 220 = .ok (.getfield 28, 3) := by decide +kernel
theorem dX8_make_223 : decode cX8_make 223 = .ok (.iload_n 3, 1) := by decide +kernel
theorem dX8_make_224 : decode cX8_make 224 = .ok (.iaload, 1) := by decide +kernel
theorem dX8_make_225 : decode cX8_make 225 = .ok (.goto 9, 3) := by decide +kernel
theorem dX8_make_228 : decode cX8_make 228 = .ok (.aload_n 0, 1) := by decide +kernel
theorem dX8_make_229 : decode cX8_make 229 = .ok (.getfield 28, 3) := by decide +kernel
theorem dX8_make_232 : decode cX8_make 232 = .ok (.iload_n 2, 1) := by decide +kernel
theorem dX8_make_233 : decode cX8_make 233 = .ok (.iaload, 1) := by decide +kernel
theorem dX8_make_234 : decode cX8_make 234 = .ok (.istore 7, 2) := by decide +kernel
theorem dX8_make_236 : decode cX8_make 236 = .ok (.iconst 0, 1) := by decide +kernel
theorem dX8_make_237 : decode cX8_make 237 = .ok (.istore 8, 2) := by decide +kernel
theorem dX8_make_239 : decode cX8_make 239 = .ok (.iconst 0, 1) := by decide +kernel
theorem dX8_make_240 : decode cX8_make 240 = .ok (.istore 9, 2) := by decide +kernel
theorem dX8_make_242 : decode cX8_make 242 = .ok (.iload 9, 2) := by decide +kernel
theorem dX8_make_244 : decode cX8_make 244 = .ok (.iload 6, 2) := by decide +kernel
theorem dX8_make_246 : decode cX8_make 246 = .ok (.if_icmp .ge 56, 3) := by decide +kernel
theorem dX8_make_249 : decode cX8_make 249 = .ok (.aload_n 0, 1) := by decide +kernel
theorem dX8_make_250 : decode cX8_make 250 = .ok (.getfield 61, 3) := by decide +kernel
theorem dX8_make_253 : decode cX8_make 253 = .ok (.iload 9, 2) := by decide +kernel
theorem dX8_make_255 : decode cX8_make 255 = .ok (.baload, 1) := by decide +kernel
theorem dX8_make_256 : decode cX8_make 256 = .ok (.ifCond .eq 40, 3) := by decide +kernel
theorem dX8_make_259 : decode cX8_make 259 = .ok (.aload_n 0, 1) := by decide +kernel
theorem dX8_make_260 : decode cX8_make 260 = .ok (.getfield 28, 3) := by decide +kernel
theorem dX8_make_263 : decode cX8_make 263 = .ok (.iload 9, 2) := by decide +kernel
theorem dX8_make_265 : decode cX8_make 265 = .ok (.iaload, 1) := by decide +kernel
theorem dX8_make_266 : decode cX8_make 266 = .ok (.iload 7, 2) := by decide +kernel
theorem dX8_make_268 : decode cX8_make 268 = .ok (.if_icmp .ne 28, 3) := by decide +kernel
theorem dX8_make_271 : decode cX8_make 271 = .ok (.aload_n 0, 1) := by decide +kernel
theorem dX8_make_272 : decode cX8_make 272 = .ok (.iload 6, 2) := by decide +kernel
theorem dX8_make_274 : decode cX8_make 274 = .ok (.iload 9, 2) := by decide +kernel
theorem dX8_make_276 : decode cX8_make 276 = .ok (.invokevirtual 218, 3) := by decide +kernel
theorem dX8_make_279 : decode cX8_make 279 = .ok (.ifCond .eq 17, 3) := by decide +kernel
theorem dX8_make_282 : decode cX8_make 282 = .ok (.iload 8, 2) := by decide +kernel
theorem dX8_make_284 : decode cX8_make 284 = .ok (.iconst 1, 1) := by decide +kernel
theorem dX8_make_285 : decode cX8_make 285 = .ok (.aload_n 0, 1) := by decide +kernel
theorem dX8_make_286 : decode cX8_make 286 = .ok (.getfield 9, 3) := by decide +kernel
theorem dX8_make_289 : decode cX8_make 289 = .ok (.iload 9, 2) := by decide +kernel
theorem dX8_make_291 : decode cX8_make 291 = .ok (.iaload, 1) := by decide +kernel
theorem dX8_make_292 : decode cX8_make 292 = .ok (.ishl, 1) := by decide +kernel
theorem dX8_make_293 : decode cX8_make 293 = .ok (.ior, 1) := by decide +kernel
theorem dX8_make_294 : decode cX8_make 294 = .ok (.istore 8, 2) := by decide +kernel
theorem dX8_make_296 : decode cX8_make 296 = .ok (.iinc 9 1, 3) := by decide +kernel
theorem dX8_make_299 : decode cX8_make 299 = .ok (.goto (-57), 3) := by decide +kernel
theorem dX8_make_302 : decode cX8_make 302 = .ok (.aload_n 0, 1) := by decide +kernel
theorem dX8_make_303 : decode cX8_make 303 = .ok (.iload 8, 2) := by decide +kernel
theorem dX8_make_305 : decode cX8_make 305 = .ok (.invokestatic 221, 3) := by decide +kernel
theorem dX8_make_308 : decode cX8_make 308 = .ok (.invokevirtual 227, 3) := by decide +kernel
theorem dX8_make_311 : decode cX8_make 311 = .ok (.ifCond .eq 6, 3) := by decide +kernel
theorem dX8_make_314 : decode cX8_make 314 = .ok (.iinc 7 1, 3) := by decide +kernel
theorem dX8_make_317 : decode cX8_make 317 = .ok (.aload_n 0, 1) := by decide +kernel
theorem dX8_make_318 : decode cX8_make 318 = .ok (.getfield 28, 3) := by decide +kernel
theorem dX8_make_321 : decode cX8_make 321 = .ok (.iload 6, 2) := by decide +kernel
theorem dX8_make_323 : decode cX8_make 323 = .ok (.iload 7, 2) := by decide +kernel
theorem dX8_make_325 : decode cX8_make 325 = .ok (.iastore, 1) := by decide +kernel
theorem dX8_make_326 : decode cX8_make 326 = .ok (.aload_n 0, 1) := by decide +kernel
theorem dX8_make_327 : decode cX8_make 327 = .ok (.getfield 61, 3) := by decide +kernel
theorem dX8_make_330 : decode cX8_make 330 = .ok (.iload 6, 2) := by decide +kernel
theorem dX8_make_332 : decode cX8_make 332 = .ok (.iload_n 2, 1) := by decide +kernel
theorem dX8_make_333 : decode cX8_make 333 = .ok (.ifCond .lt 14, 3) := by decide +kernel
theorem dX8_make_336 : decode cX8_make 336 = .ok (.aload_n 0, 1) := by decide +kernel
theorem dX8_make_337 : decode cX8_make 337 = .ok (.getfield 28, 3) := by decide +kernel
theorem dX8_make_340 : decode cX8_make 340 = .ok (.iload_n 2, 1) := by decide +kernel
theorem dX8_make_341 : decode cX8_make 341 = .ok (.iaload, 1) := by decide +kernel
theorem dX8_make_342 : decode cX8_make 342 = .ok (.iload 7, 2) := by decide +kernel
theorem dX8_make_344 : decode cX8_make 344 = .ok (.if_icmp .ge 7, 3) := by decide +kernel
theorem dX8_make_347 : decode cX8_make 347 = .ok (.iconst 1, 1) := by decide +kernel
theorem dX8_make_348 : decode cX8_make 348 = .ok (.goto 4, 3) := by decide +kernel
theorem dX8_make_351 : decode cX8_make 351 = .ok (.iconst 0, 1) := by decide +kernel
theorem dX8_make_352 : decode cX8_make 352 = .ok (.bastore, 1) := by decide +kernel
theorem dX8_make_353 : decode cX8_make 353 = .ok (.aload_n 0, 1) := by decide +kernel
theorem dX8_make_354 : decode cX8_make 354 = .ok (.iconst (-1), 1) := by decide +kernel
theorem dX8_make_355 : decode cX8_make 355 = .ok (.putfield 71, 3) := by decide +kernel
theorem dX8_make_358 : decode cX8_make 358 = .ok (.iload 6, 2) := by decide +kernel
theorem dX8_make_360 : decode cX8_make 360 = .ok (.ireturn, 1) := by decide +kernel
theorem dX8_isMost_0 : decode cX8_isMost 0 = .ok (.iconst 3, 1) := by decide +kernel
theorem dX8_isMost_1 : decode cX8_isMost 1 = .ok (.iload_n 1, 1) := by decide +kernel
theorem dX8_isMost_2 : decode cX8_isMost 2 = .ok (.imul, 1) := by decide +kernel
theorem dX8_isMost_3 : decode cX8_isMost 3 = .ok (.iconst 2, 1) := by decide +kernel
theorem dX8_isMost_4 : decode cX8_isMost 4 = .ok (.aload_n 0, 1) := by decide +kernel
theorem dX8_isMost_5 : decode cX8_isMost 5 = .ok (.getfield 193, 3) := by decide +kernel
theorem dX8_isMost_8 : decode cX8_isMost 8 = .ok (.imul, 1) := by decide +kernel
theorem dX8_isMost_9 : decode cX8_isMost 9 = .ok (.if_icmp .le 7, 3) := by decide +kernel
theorem dX8_isMost_12 : decode cX8_isMost 12 = .ok (.iconst 1, 1) := by decide +kernel
theorem dX8_isMost_13 : decode cX8_isMost 13 = .ok (.goto 4, 3) := by decide +kernel
theorem dX8_isMost_16 : decode cX8_isMost 16 = .ok (.iconst 0, 1) := by decide +kernel
theorem dX8_isMost_17 : decode cX8_isMost 17 = .ok (.ireturn, 1) := by decide +kernel
theorem dX8_isSelf_0 : decode cX8_isSelf 0 = .ok (.iload_n 1, 1) := by decide +kernel
theorem dX8_isSelf_1 : decode cX8_isSelf 1 = .ok (.istore_n 3, 1) := by decide +kernel
theorem dX8_isSelf_2 : decode cX8_isSelf 2 = .ok (.iload_n 3, 1) := by decide +kernel
theorem dX8_isSelf_3 : decode cX8_isSelf 3 = .ok (.ifCond .lt 20, 3) := by decide +kernel
theorem dX8_isSelf_6 : decode cX8_isSelf 6 = .ok (.iload_n 3, 1) := by decide +kernel
theorem dX8_isSelf_7 : decode cX8_isSelf 7 = .ok (.iload_n 2, 1) := by decide +kernel
theorem dX8_isSelf_8 : decode cX8_isSelf 8 = .ok (.if_icmp .ne 5, 3) := by decide +kernel
theorem dX8_isSelf_11 : decode cX8_isSelf 11 = .ok (.iconst 1, 1) := by decide +kernel
theorem dX8_isSelf_12 : decode cX8_isSelf 12 = .ok (.ireturn, 1) := by decide +kernel
theorem dX8_isSelf_13 : decode cX8_isSelf 13 = .ok (.aload_n 0, 1) := by decide +kernel
theorem dX8_isSelf_14 : decode cX8_isSelf 14 = .ok (.getfield 13, 3) := by decide +kernel
theorem dX8_isSelf_17 : decode cX8_isSelf 17 = .ok (.iload_n 3, 1) := by decide +kernel
theorem dX8_isSelf_18 : decode cX8_isSelf 18 = .ok (.iaload, 1) := by decide +kernel
theorem dX8_isSelf_19 : decode cX8_isSelf 19 = .ok (.istore_n 3, 1) := by decide +kernel
theorem dX8_isSelf_20 : decode cX8_isSelf 20 = .ok (.goto (-18), 3) := by decide +kernel
theorem dX8_isSelf_23 : decode cX8_isSelf 23 = .ok (.iconst 0, 1) := by decide +kernel
theorem dX8_isSelf_24 : decode cX8_isSelf 24 = .ok (.ireturn, 1) := by decide +kernel
theorem dX8_isFork_0 : decode cX8_isFork 0 = .ok (.iload_n 1, 1) := by decide +kernel
theorem dX8_isFork_1 : decode cX8_isFork 1 = .ok (.iload_n 2, 1) := by decide +kernel
theorem dX8_isFork_2 : decode cX8_isFork 2 = .ok (.if_icmp .eq 40, 3) := by decide +kernel
theorem dX8_isFork_5 : decode cX8_isFork 5 = .ok (.aload_n 0, 1) := by decide +kernel
theorem dX8_isFork_6 : decode cX8_isFork 6 = .ok (.getfield 9, 3) := by decide +kernel
theorem dX8_isFork_9 : decode cX8_isFork 9 = .ok (.iload_n 1, 1) := by decide +kernel
theorem dX8_isFork_10 : decode cX8_isFork 10 = .ok (.iaload, 1) := by decide +kernel
theorem dX8_isFork_11 : decode cX8_isFork 11 = .ok (.aload_n 0, 1) := by decide +kernel
theorem dX8_isFork_12 : decode cX8_isFork 12 = .ok (.getfield 9, 3) := by decide +kernel
theorem dX8_isFork_15 : decode cX8_isFork 15 = .ok (.iload_n 2, 1) := by decide +kernel
theorem dX8_isFork_16 : decode cX8_isFork 16 = .ok (.iaload, 1) := by decide +kernel
theorem dX8_isFork_17 : decode cX8_isFork 17 = .ok (.if_icmp .ne 25, 3) := by decide +kernel
theorem dX8_isFork_20 : decode cX8_isFork 20 = .ok (.aload_n 0, 1) := by decide +kernel
theorem dX8_isFork_21 : decode cX8_isFork 21 = .ok (.iload_n 1, 1) := by decide +kernel
theorem dX8_isFork_22 : decode cX8_isFork 22 = .ok (.iload_n 2, 1) := by decide +kernel
theorem dX8_isFork_23 : decode cX8_isFork 23 = .ok (.invokevirtual 231, 3) := by decide +kernel
theorem dX8_isFork_26 : decode cX8_isFork 26 = .ok (.ifCond .ne 16, 3) := by decide +kernel
theorem dX8_isFork_29 : decode cX8_isFork 29 = .ok (.aload_n 0, 1) := by decide +kernel
theorem dX8_isFork_30 : decode cX8_isFork 30 = .ok (.iload_n 2, 1) := by decide +kernel
theorem dX8_isFork_31 : decode cX8_isFork 31 = .ok (.iload_n 1, 1) := by decide +kernel
theorem dX8_isFork_32 : decode cX8_isFork 32 = .ok (.invokevirtual 231, 3) := by decide +kernel
theorem dX8_isFork_35 : decode cX8_isFork 35 = .ok (.ifCond .ne 7, 3) := by decide +kernel
theorem dX8_isFork_38 : decode cX8_isFork 38 = .ok (.iconst 1, 1) := by decide +kernel
theorem dX8_isFork_39 : decode cX8_isFork 39 = .ok (.goto 4, 3) := by decide +kernel
theorem dX8_isFork_42 : decode cX8_isFork 42 = .ok (.iconst 0, 1) := by decide +kernel
theorem dX8_isFork_43 : decode cX8_isFork 43 = .ok (.ireturn, 1) := by decide +kernel
theorem dX8_isForked_0 : decode cX8_isForked 0 = .ok (.iconst 0, 1) := by decide +kernel
theorem dX8_isForked_1 : decode cX8_isForked 1 = .ok (.istore_n 3, 1) := by decide +kernel
theorem dX8_isForked_2 : decode cX8_isForked 2 = .ok (.iload_n 3, 1) := by decide +kernel
theorem dX8_isForked_3 : decode cX8_isForked 3 = .ok (.iload_n 1, 1) := by decide +kernel
theorem dX8_isForked_4 : decode cX8_isForked 4 = .ok (.if_icmp .gt 91, 3) := by decide +kernel
theorem dX8_isForked_7 : decode cX8_isForked 7 = .ok (.aload_n 0, 1) := by decide +kernel
theorem dX8_isForked_8 : decode cX8_isForked 8 = .ok (.getfield 9, 3) := by decide +kernel
theorem dX8_isForked_11 : decode cX8_isForked 11 = .ok (.iload_n 3, 1) := by decide +kernel
theorem dX8_isForked_12 : decode cX8_isForked 12 = .ok (.iaload, 1) := by decide +kernel
theorem dX8_isForked_13 : decode cX8_isForked 13 = .ok (.iload_n 2, 1) := by decide +kernel
theorem dX8_isForked_14 : decode cX8_isForked 14 = .ok (.if_icmp .ne 75, 3) := by decide +kernel
theorem dX8_isForked_17 : decode cX8_isForked 17 = .ok (.aload_n 0, 1) := by decide +kernel
theorem dX8_isForked_18 : decode cX8_isForked 18 = .ok (.getfield 51, 3) := by decide +kernel
theorem dX8_isForked_21 : decode cX8_isForked 21 = .ok (.sipush 240, 3) := by decide +kernel
theorem dX8_isForked_24 : decode cX8_isForked 24 = .ok (.iload_n 1, 1) := by decide +kernel
theorem dX8_isForked_25 : decode cX8_isForked 25 = .ok (.imul, 1) := by decide +kernel
theorem dX8_isForked_26 : decode cX8_isForked 26 = .ok (.iload_n 3, 1) := by decide +kernel
theorem dX8_isForked_27 : decode cX8_isForked 27 = .ok (.iadd, 1) := by decide +kernel
theorem dX8_isForked_28 : decode cX8_isForked 28 = .ok (.baload, 1) := by decide +kernel
theorem dX8_isForked_29 : decode cX8_isForked 29 = .ok (.ifCond .ne 6, 3) := by decide +kernel
theorem dX8_isForked_32 : decode cX8_isForked 32 = .ok (.goto 57, 3) := by decide +kernel
theorem dX8_isForked_35 : decode cX8_isForked 35 = .ok (.iconst 0, 1) := by decide +kernel
theorem dX8_isForked_36 : decode cX8_isForked 36 = .ok (.istore 4, 2) := by decide +kernel
theorem dX8_isForked_38 : decode cX8_isForked 38 = .ok (.iload 4, 2) := by decide +kernel
theorem dX8_isForked_40 : decode cX8_isForked 40 = .ok (.iload_n 3, 1) := by decide +kernel
theorem dX8_isForked_41 : decode cX8_isForked 41 = .ok (.if_icmp .ge 48, 3) := by decide +kernel
theorem dX8_isForked_44 : decode cX8_isForked 44 = .ok (.aload_n 0, 1) := by decide +kernel
theorem dX8_isForked_45 : decode cX8_isForked 45 = .ok (.getfield 9, 3) := by decide +kernel
theorem dX8_isForked_48 : decode cX8_isForked 48 = .ok (.iload 4, 2) := by decide +kernel
theorem dX8_isForked_50 : decode cX8_isForked 50 = .ok (.iaload, 1) := by decide +kernel
theorem dX8_isForked_51 : decode cX8_isForked 51 = .ok (.iload_n 2, 1) := by decide +kernel
theorem dX8_isForked_52 : decode cX8_isForked 52 = .ok (.if_icmp .ne 31, 3) := by decide +kernel
theorem dX8_isForked_55 : decode cX8_isForked 55 = .ok (.aload_n 0, 1) := by decide +kernel
theorem dX8_isForked_56 : decode cX8_isForked 56 = .ok (.getfield 51, 3) := by decide +kernel
theorem dX8_isForked_59 : decode cX8_isForked 59 = .ok (.sipush 240, 3) := by decide +kernel
theorem dX8_isForked_62 : decode cX8_isForked 62 = .ok (.iload_n 1, 1) := by decide +kernel
theorem dX8_isForked_63 : decode cX8_isForked 63 = .ok (.imul, 1) := by decide +kernel
theorem dX8_isForked_64 : decode cX8_isForked 64 = .ok (.iload 4, 2) := by decide +kernel
theorem dX8_isForked_66 : decode cX8_isForked 66 = .ok (.iadd, 1) := by decide +kernel
theorem dX8_isForked_67 : decode cX8_isForked 67 = .ok (.baload, 1) := by decide +kernel
theorem dX8_isForked_68 : decode cX8_isForked 68 = .ok (.ifCond .eq 15, 3) := by decide +kernel
theorem dX8_isForked_71 : decode cX8_isForked 71 = .ok (.aload_n 0, 1) := by decide +kernel
theorem dX8_isForked_72 : decode cX8_isForked 72 = .ok (.iload_n 3, 1) := by decide +kernel
theorem dX8_isForked_73 : decode cX8_isForked 73 = .ok (.iload 4, 2) := by decide +kernel
theorem dX8_isForked_75 : decode cX8_isForked 75 = .ok (.invokevirtual 234, 3) := by decide +kernel
theorem dX8_isForked_78 : decode cX8_isForked 78 = .ok (.ifCond .eq 5, 3) := by decide +kernel
theorem dX8_isForked_81 : decode cX8_isForked 81 = .ok (.iconst 1, 1) := by decide +kernel
theorem dX8_isForked_82 : decode cX8_isForked 82 = .ok (.ireturn, 1) := by decide +kernel
theorem dX8_isForked_83 : decode cX8_isForked 83 = .ok (.iinc 4 1, 3) := by decide +kernel
theorem dX8_isForked_86 : decode cX8_isForked 86 = .ok (.goto (-48), 3) := by decide +kernel
theorem dX8_isForked_89 : decode cX8_isForked 89 = .ok (.iinc 3 1, 3) := by decide +kernel
theorem dX8_isForked_92 : decode cX8_isForked 92 = .ok (.goto (-90), 3) := by decide +kernel
theorem dX8_isForked_95 : decode cX8_isForked 95 = .ok (.iconst 0, 1) := by decide +kernel
theorem dX8_isForked_96 : decode cX8_isForked 96 = .ok (.ireturn, 1) := by decide +kernel
theorem dX8_sees_0 : decode cX8_sees 0 = .ok (.aload_n 0, 1) := by decide +kernel
theorem dX8_sees_1 : decode cX8_sees 1 = .ok (.getfield 51, 3) := by decide +kernel
theorem dX8_sees_4 : decode cX8_sees 4 = .ok (.sipush 240, 3) := by decide +kernel
theorem dX8_sees_7 : decode cX8_sees 7 = .ok (.iload_n 1, 1) := by decide +kernel
theorem dX8_sees_8 : decode cX8_sees 8 = .ok (.imul, 1) := by decide +kernel
theorem dX8_sees_9 : decode cX8_sees 9 = .ok (.iload_n 2, 1) := by decide +kernel
theorem dX8_sees_10 : decode cX8_sees 10 = .ok (.iadd, 1) := by decide +kernel
theorem dX8_sees_11 : decode cX8_sees 11 = .ok (.baload, 1) := by decide +kernel
theorem dX8_sees_12 : decode cX8_sees 12 = .ok (.ifCond .eq 26, 3) := by decide +kernel
theorem dX8_sees_15 : decode cX8_sees 15 = .ok (.aload_n 0, 1) := by decide +kernel
theorem dX8_sees_16 : decode cX8_sees 16 = .ok (.getfield 58, 3) := by decide +kernel
theorem dX8_sees_19 : decode cX8_sees 19 = .ok (.bipush 8, 2) := by decide +kernel
theorem dX8_sees_21 : decode cX8_sees 21 = .ok (.iload_n 1, 1) := by decide +kernel
theorem dX8_sees_22 : decode cX8_sees 22 = .ok (.imul, 1) := by decide +kernel
theorem dX8_sees_23 : decode cX8_sees 23 = .ok (.aload_n 0, 1) := by decide +kernel
theorem dX8_sees_24 : decode cX8_sees 24 = .ok (.getfield 9, 3) := by decide +kernel
theorem dX8_sees_27 : decode cX8_sees 27 = .ok (.iload_n 2, 1) := by decide +kernel
theorem dX8_sees_28 : decode cX8_sees 28 = .ok (.iaload, 1) := by decide +kernel
theorem dX8_sees_29 : decode cX8_sees 29 = .ok (.iadd, 1) := by decide +kernel
theorem dX8_sees_30 : decode cX8_sees 30 = .ok (.baload, 1) := by decide +kernel
theorem dX8_sees_31 : decode cX8_sees 31 = .ok (.ifCond .ne 7, 3) := by decide +kernel
theorem dX8_sees_34 : decode cX8_sees 34 = .ok (.iconst 1, 1) := by decide +kernel
theorem dX8_sees_35 : decode cX8_sees 35 = .ok (.goto 4, 3) := by decide +kernel
theorem dX8_sees_38 : decode cX8_sees 38 = .ok (.iconst 0, 1) := by decide +kernel
theorem dX8_sees_39 : decode cX8_sees 39 = .ok (.ireturn, 1) := by decide +kernel
theorem dX8_strongly_0 : decode cX8_strongly 0 = .ok (.sipush 240, 3) := by decide +kernel
theorem dX8_strongly_3 : decode cX8_strongly 3 = .ok (.iload_n 1, 1) := by decide +kernel
theorem dX8_strongly_4 : decode cX8_strongly 4 = .ok (.imul, 1) := by decide +kernel
theorem dX8_strongly_5 : decode cX8_strongly 5 = .ok (.iload_n 2, 1) := by decide +kernel
theorem dX8_strongly_6 : decode cX8_strongly 6 = .ok (.iadd, 1) := by decide +kernel
theorem dX8_strongly_7 : decode cX8_strongly 7 = .ok (.istore_n 3, 1) := by decide +kernel
theorem dX8_strongly_8 : decode cX8_strongly 8 = .ok (.aload_n 0, 1) := by decide +kernel
theorem dX8_strongly_9 : decode cX8_strongly 9 = .ok (.getfield 64, 3) := by decide +kernel
theorem dX8_strongly_12 : decode cX8_strongly 12 = .ok (.iload_n 3, 1) := by decide +kernel
theorem dX8_strongly_13 : decode cX8_strongly 13 = .ok (.baload, 1) := by decide +kernel
theorem dX8_strongly_14 : decode cX8_strongly 14 = .ok (.ifCond .ne 85, 3) := by decide +kernel
theorem dX8_strongly_17 : decode cX8_strongly 17 = .ok (.iconst 0, 1) := by decide +kernel
theorem dX8_strongly_18 : decode cX8_strongly 18 = .ok (.istore 4, 2) := by decide +kernel
theorem dX8_strongly_20 : decode cX8_strongly 20 = .ok (.iconst 0, 1) := by decide +kernel
theorem dX8_strongly_21 : decode cX8_strongly 21 = .ok (.istore 5, 2) := by decide +kernel
theorem dX8_strongly_23 : decode cX8_strongly 23 = .ok (.iload 5, 2) := by decide +kernel
theorem dX8_strongly_25 : decode cX8_strongly 25 = .ok (.iload_n 1, 1) := by decide +kernel
theorem dX8_strongly_26 : decode cX8_strongly 26 = .ok (.if_icmp .gt 49, 3) := by decide +kernel
theorem dX8_strongly_29 : decode cX8_strongly 29 = .ok (.aload_n 0, 1) := by decide +kernel
theorem dX8_strongly_30 : decode cX8_strongly 30 = .ok (.iload_n 1, 1) := by decide +kernel
theorem dX8_strongly_31 : decode cX8_strongly 31 = .ok (.iload 5, 2) := by decide +kernel
theorem dX8_strongly_33 : decode cX8_strongly 33 = .ok (.invokevirtual 237, 3) := by decide +kernel
theorem dX8_strongly_36 : decode cX8_strongly 36 = .ok (.ifCond .eq 33, 3) := by decide +kernel
theorem dX8_strongly_39 : decode cX8_strongly 39 = .ok (.iload 5, 2) := by decide +kernel
theorem dX8_strongly_41 : decode cX8_strongly 41 = .ok (.iload_n 2, 1) := by decide +kernel
theorem dX8_strongly_42 : decode cX8_strongly 42 = .ok (.if_icmp .lt 27, 3) := by decide +kernel
theorem dX8_strongly_45 : decode cX8_strongly 45 = .ok (.aload_n 0, 1) := by decide +kernel
theorem dX8_strongly_46 : decode cX8_strongly 46 = .ok (.iload 5, 2) := by decide +kernel
theorem dX8_strongly_48 : decode cX8_strongly 48 = .ok (.iload_n 2, 1) := by decide +kernel
theorem dX8_strongly_49 : decode cX8_strongly 49 = .ok (.invokevirtual 237, 3) := by decide +kernel
theorem dX8_strongly_52 : decode cX8_strongly 52 = .ok (.ifCond .eq 17, 3) := by decide +kernel
theorem dX8_strongly_55 : decode cX8_strongly 55 = .ok (.iload 4, 2) := by decide +kernel
theorem dX8_strongly_57 : decode cX8_strongly 57 = .ok (.iconst 1, 1) := by decide +kernel
theorem dX8_strongly_58 : decode cX8_strongly 58 = .ok (.aload_n 0, 1) := by decide +kernel
theorem dX8_strongly_59 : decode cX8_strongly 59 = .ok (.getfield 9, 3) := by decide +kernel
theorem dX8_strongly_62 : decode cX8_strongly 62 = .ok (.iload 5, 2) := by decide +kernel
theorem dX8_strongly_64 : decode cX8_strongly 64 = .ok (.iaload, 1) := by decide +kernel
theorem dX8_strongly_65 : decode cX8_strongly 65 = .ok (.ishl, 1) := by decide +kernel
theorem dX8_strongly_66 : decode cX8_strongly 66 = .ok (.ior, 1) := by decide +kernel
theorem dX8_strongly_67 : decode cX8_strongly 67 = .ok (.istore 4, 2) := by decide +kernel
theorem dX8_strongly_69 : decode cX8_strongly 69 = .ok (.iinc 5 1, 3) := by decide +kernel
theorem dX8_strongly_72 : decode cX8_strongly 72 = .ok (.goto (-49), 3) := by decide +kernel
theorem dX8_strongly_75 : decode cX8_strongly 75 = .ok (.aload_n 0, 1) := by decide +kernel
theorem dX8_strongly_76 : decode cX8_strongly 76 = .ok (.getfield 64, 3) := by decide +kernel
theorem dX8_strongly_79 : decode cX8_strongly 79 = .ok (.iload_n 3, 1) := by decide +kernel
theorem dX8_strongly_80 : decode cX8_strongly 80 = .ok (.aload_n 0, 1) := by decide +kernel
theorem dX8_strongly_81 : decode cX8_strongly 81 = .ok (.iload 4, 2) := by decide +kernel
theorem dX8_strongly_83 : decode cX8_strongly 83 = .ok (.invokestatic 221, 3) := by decide +kernel
theorem dX8_strongly_86 : decode cX8_strongly 86 = .ok (.invokevirtual 227, 3) := by decide +kernel
theorem dX8_strongly_89 : decode cX8_strongly 89 = .ok (.ifCond .eq 7, 3) := by decide +kernel
theorem dX8_strongly_92 : decode cX8_strongly 92 = .ok (.iconst 2, 1) := by decide +kernel
theorem dX8_strongly_93 : decode cX8_strongly 93 = .ok (.goto 4, 3) := by decide +kernel
theorem dX8_strongly_96 : decode cX8_strongly 96 = .ok (.iconst 1, 1) := by decide +kernel
theorem dX8_strongly_97 : decode cX8_strongly 97 = .ok (.i2b, 1) := by decide +kernel
theorem dX8_strongly_98 : decode cX8_strongly 98 = .ok (.bastore, 1) := by decide +kernel
theorem dX8_strongly_99 : decode cX8_strongly 99 = .ok (.aload_n 0, 1) := by decide +kernel
theorem dX8_strongly_100 : decode cX8_strongly 100 = .ok (.getfield 64, 3) := by decide +kernel
theorem dX8_strongly_103 : decode cX8_strongly 103 = .ok (.iload_n 3, 1) := by decide +kernel
theorem dX8_strongly_104 : decode cX8_strongly 104 = .ok (.baload, 1) := by decide +kernel
theorem dX8_strongly_105 : decode cX8_strongly 105 = .ok (.iconst 2, 1) := by decide +kernel
theorem dX8_strongly_106 : decode cX8_strongly 106 = .ok (.if_icmp .ne 7, 3) := by decide +kernel
theorem dX8_strongly_109 : decode cX8_strongly 109 = .ok (.iconst 1, 1) := by decide +kernel
theorem dX8_strongly_110 : decode cX8_strongly 110 = .ok (.goto 4, 3) := by decide +kernel
theorem dX8_strongly_113 : decode cX8_strongly 113 = .ok (.iconst 0, 1) := by decide +kernel
theorem dX8_strongly_114 : decode cX8_strongly 114 = .ok (.ireturn, 1) := by decide +kernel
theorem dX8_voteOf_0 : decode cX8_voteOf 0 = .ok (.sipush 240, 3) := by decide +kernel
theorem dX8_voteOf_3 : decode cX8_voteOf 3 = .ok (.iload_n 1, 1) := by decide +kernel
theorem dX8_voteOf_4 : decode cX8_voteOf 4 = .ok (.imul, 1) := by decide +kernel
theorem dX8_voteOf_5 : decode cX8_voteOf 5 = .ok (.iload_n 2, 1) := by decide +kernel
theorem dX8_voteOf_6 : decode cX8_voteOf 6 = .ok (.iadd, 1) := by decide +kernel
theorem dX8_voteOf_7 : decode cX8_voteOf 7 = .ok (.istore_n 3, 1) := by decide +kernel
theorem dX8_voteOf_8 : decode cX8_voteOf 8 = .ok (.aload_n 0, 1) := by decide +kernel
theorem dX8_voteOf_9 : decode cX8_voteOf 9 = .ok (.getfield 68, 3) := by decide +kernel
theorem dX8_voteOf_12 : decode cX8_voteOf 12 = .ok (.iload_n 3, 1) := by decide +kernel
theorem dX8_voteOf_13 : decode cX8_voteOf 13 = .ok (.baload, 1) := by decide +kernel
theorem dX8_voteOf_14 : decode cX8_voteOf 14 = .ok (.ifCond .eq 12, 3) := by decide +kernel
theorem dX8_voteOf_17 : decode cX8_voteOf 17 = .ok (.aload_n 0, 1) := by decide +kernel
theorem dX8_voteOf_18 : decode cX8_voteOf 18 = .ok (.getfield 68, 3) := by decide +kernel
theorem dX8_voteOf_21 : decode cX8_voteOf 21 = .ok (.iload_n 3, 1) := by decide +kernel
theorem dX8_voteOf_22 : decode cX8_voteOf 22 = .ok (.baload, 1) := by decide +kernel
theorem dX8_voteOf_23 : decode cX8_voteOf 23 = .ok (.iconst 1, 1) := by decide +kernel
theorem dX8_voteOf_24 : decode cX8_voteOf 24 = .ok (.isub, 1) := by decide +kernel
theorem dX8_voteOf_25 : decode cX8_voteOf 25 = .ok (.ireturn, 1) := by decide +kernel
theorem dX8_voteOf_26 : decode cX8_voteOf 26 = .ok (.aload_n 0, 1) := by decide +kernel
theorem dX8_voteOf_27 : decode cX8_voteOf 27 = .ok (.getfield 28, 3) := by decide +kernel
theorem dX8_voteOf_30 : decode cX8_voteOf 30 = .ok (.iload_n 1, 1) := by decide +kernel
theorem dX8_voteOf_31 : decode cX8_voteOf 31 = .ok (.iaload, 1) := by decide +kernel
theorem dX8_voteOf_32 : decode cX8_voteOf 32 = .ok (.aload_n 0, 1) := by decide +kernel
theorem dX8_voteOf_33 : decode cX8_voteOf 33 = .ok (.getfield 28, 3) := by decide +kernel
theorem dX8_voteOf_36 : decode cX8_voteOf 36 = .ok (.iload_n 2, 1) := by decide +kernel
theorem dX8_voteOf_37 : decode cX8_voteOf 37 = .ok (.iaload, 1) := by decide +kernel
theorem dX8_voteOf_38 : decode cX8_voteOf 38 = .ok (.isub, 1) := by decide +kernel
theorem dX8_voteOf_39 : decode cX8_voteOf 39 = .ok (.istore 4, 2) := by decide +kernel
theorem dX8_voteOf_41 : decode cX8_voteOf 41 = .ok (.iload 4, 2) := by decide +kernel
theorem dX8_voteOf_43 : decode cX8_voteOf 43 = .ok (.iconst 1, 1) := by decide +kernel
theorem dX8_voteOf_44 : decode cX8_voteOf 44 = .ok (.if_icmp .ne 22, 3) := by decide +kernel
theorem dX8_voteOf_47 : decode cX8_voteOf 47 = .ok (.aload_n 0, 1) := by decide +kernel
theorem dX8_voteOf_48 : decode cX8_voteOf 48 = .ok (.iload_n 1, 1) := by decide +kernel
theorem dX8_voteOf_49 : decode cX8_voteOf 49 = .ok (.iload_n 2, 1) := by decide +kernel
theorem dX8_voteOf_50 : decode cX8_voteOf 50 = .ok (.invokevirtual 237, 3) := by decide +kernel
theorem dX8_voteOf_53 : decode cX8_voteOf 53 = .ok (.ifCond .eq 7, 3) := by decide +kernel
theorem dX8_voteOf_56 : decode cX8_voteOf 56 = .ok (.iconst 1, 1) := by decide +kernel
theorem dX8_voteOf_57 : decode cX8_voteOf 57 = .ok (.goto 4, 3) := by decide +kernel
theorem dX8_voteOf_60 : decode cX8_voteOf 60 = .ok (.iconst 0, 1) := by decide +kernel
theorem dX8_voteOf_61 : decode cX8_voteOf 61 = .ok (.istore 5, 2) := by decide +kernel
theorem dX8_voteOf_63 : decode cX8_voteOf 63 = .ok (.goto 171, 3) := by decide +kernel
theorem dX8_voteOf_66 : decode cX8_voteOf 66 = .ok (.iconst 0, 1) := by decide +kernel
theorem dX8_voteOf_67 : decode cX8_voteOf 67 = .ok (.istore 6, 2) := by decide +kernel
theorem dX8_voteOf_69 : decode cX8_voteOf 69 = .ok (.iconst 0, 1) := by decide +kernel
theorem dX8_voteOf_70 : decode cX8_voteOf 70 = .ok (.istore 7, 2) := by decide +kernel
theorem dX8_voteOf_72 : decode cX8_voteOf 72 = .ok (.iconst 0, 1) := by decide +kernel
theorem dX8_voteOf_73 : decode cX8_voteOf 73 = .ok (.istore 8, 2) := by decide +kernel
theorem dX8_voteOf_75 : decode cX8_voteOf 75 = .ok (.iload 8, 2) := by decide +kernel
theorem dX8_voteOf_77 : decode cX8_voteOf 77 = .ok (.iload_n 1, 1) := by decide +kernel
theorem dX8_voteOf_78 : decode cX8_voteOf 78 = .ok (.if_icmp .ge 72, 3) := by decide +kernel
theorem dX8_voteOf_81 : decode cX8_voteOf 81 = .ok (.aload_n 0, 1) := by decide +kernel
theorem dX8_voteOf_82 : decode cX8_voteOf 82 = .ok (.getfield 61, 3) := by decide +kernel
theorem dX8_voteOf_85 : decode cX8_voteOf 85 = .ok (.iload 8, 2) := by decide +kernel
theorem dX8_voteOf_87 : decode cX8_voteOf 87 = .ok (.baload, 1) := by decide +kernel
theorem dX8_voteOf_88 : decode cX8_voteOf 88 = .ok (.ifCond .eq 56, 3) := by decide +kernel
theorem dX8_voteOf_91 : decode cX8_voteOf 91 = .ok (.aload_n 0, 1) := by decide +kernel
theorem dX8_voteOf_92 : decode cX8_voteOf 92 = .ok (.getfield 28, 3) := by decide +kernel
theorem dX8_voteOf_95 : decode cX8_voteOf 95 = .ok (.iload 8, 2) := by decide +kernel
theorem dX8_voteOf_97 : decode cX8_voteOf 97 = .ok (.iaload, 1) := by decide +kernel
theorem dX8_voteOf_98 : decode cX8_voteOf 98 = .ok (.aload_n 0, 1) := by decide +kernel
theorem dX8_voteOf_99 : decode cX8_voteOf 99 = .ok (.getfield 28, 3) := by decide +kernel
theorem dX8_voteOf_102 : decode cX8_voteOf 102 = .ok (.iload_n 1, 1) := by decide +kernel
theorem dX8_voteOf_103 : decode cX8_voteOf 103 = .ok (.iaload, 1) := by decide +kernel
theorem dX8_voteOf_104 : decode cX8_voteOf 104 = .ok (.iconst 1, 1) := by decide +kernel
theorem dX8_voteOf_105 : decode cX8_voteOf 105 = .ok (.isub, 1) := by decide +kernel
theorem dX8_voteOf_106 : decode cX8_voteOf 106 = .ok (.if_icmp .ne 38, 3) := by decide +kernel
theorem dX8_voteOf_109 : decode cX8_voteOf 109 = .ok (.aload_n 0, 1) := by decide +kernel
theorem dX8_voteOf_110 : decode cX8_voteOf 110 = .ok (.iload_n 1, 1) := by decide +kernel
theorem dX8_voteOf_111 : decode cX8_voteOf 111 = .ok (.iload 8, 2) := by decide +kernel
theorem dX8_voteOf_113 : decode cX8_voteOf 113 = .ok (.invokevirtual 218, 3) := by decide +kernel
theorem dX8_voteOf_116 : decode cX8_voteOf 116 = .ok (.ifCond .ne 6, 3) := by decide +kernel
theorem dX8_voteOf_119 : decode cX8_voteOf 119 = .ok (.goto 25, 3) := by decide +kernel
theorem dX8_voteOf_122 : decode cX8_voteOf 122 = .ok (.aload_n 0, 1) := by decide +kernel
theorem dX8_voteOf_123 : decode cX8_voteOf 123 = .ok (.iload 8, 2) := by decide +kernel
theorem dX8_voteOf_125 : decode cX8_voteOf 125 = .ok (.iload_n 2, 1) := by decide +kernel
theorem dX8_voteOf_126 : decode cX8_voteOf 126 = .ok (.invokevirtual 240, 3) := by decide +kernel
theorem dX8_voteOf_129 : decode cX8_voteOf 129 = .ok (.iconst 1, 1) := by decide +kernel
theorem dX8_voteOf_130 : decode cX8_voteOf 130 = .ok (.iand, 1) := by decide +kernel
theorem dX8_voteOf_131 : decode cX8_voteOf 131 = .ok (.iconst 1, 1) := by decide +kernel
theorem dX8_voteOf_132 : decode cX8_voteOf 132 = .ok (.if_icmp .ne 9, 3) := by decide +kernel
theorem dX8_voteOf_135 : decode cX8_voteOf 135 = .ok (.iinc 6 1, 3) := by decide +kernel
theorem dX8_voteOf_138 : decode cX8_voteOf 138 = .ok (.goto 6, 3) := by decide +kernel
theorem dX8_voteOf_141 : decode cX8_voteOf 141 = .ok (.iinc 7 1, 3) := by decide +kernel
theorem dX8_voteOf_144 : decode cX8_voteOf 144 = .ok (.iinc 8 1, 3) := by decide +kernel
theorem dX8_voteOf_147 : decode cX8_voteOf 147 = .ok (.goto (-72), 3) := by decide +kernel
theorem dX8_voteOf_150 : decode cX8_voteOf 150 = .ok (.iload 6, 2) := by decide +kernel
theorem dX8_voteOf_152 : decode cX8_voteOf 152 = .ok (.iload 7, 2) := by decide +kernel
theorem dX8_voteOf_154 : decode cX8_voteOf 154 = .ok (.if_icmp .lt 7, 3) := by decide +kernel
theorem dX8_voteOf_157 : decode cX8_voteOf 157 = .ok (.iconst 1, 1) := by decide +kernel
theorem dX8_voteOf_158 : decode cX8_voteOf 158 = .ok (.goto 4, 3) := by decide +kernel
theorem dX8_voteOf_161 : decode cX8_voteOf 161 = .ok (.iconst 0, 1) := by decide +kernel
theorem dX8_voteOf_162 : decode cX8_voteOf 162 = .ok (.istore 5, 2) := by decide +kernel
theorem dX8_voteOf_164 : decode cX8_voteOf 164 = .ok (.aload_n 0, 1) := by decide +kernel
theorem dX8_voteOf_165 : decode cX8_voteOf 165 = .ok (.iload 5, 2) := by decide +kernel
theorem dX8_voteOf_167 : decode cX8_voteOf 167 = .ok (.iconst 1, 1) := by decide +kernel
theorem dX8_voteOf_168 : decode cX8_voteOf 168 = .ok (.if_icmp .ne 8, 3) := by decide +kernel
theorem dX8_voteOf_171 : decode cX8_voteOf 171 = .ok (.iload 6, 2) := by decide +kernel
theorem dX8_voteOf_173 : decode cX8_voteOf 173 = .ok (.goto 5, 3) := by decide +kernel
theorem dX8_voteOf_176 : decode cX8_voteOf 176 = .ok (.iload 7, 2) := by decide +kernel
theorem dX8_voteOf_178 : decode cX8_voteOf 178 = .ok (.invokevirtual 227, 3) := by decide +kernel
theorem dX8_voteOf_181 : decode cX8_voteOf 181 = .ok (.istore 8, 2) := by decide +kernel
theorem dX8_voteOf_183 : decode cX8_voteOf 183 = .ok (.iload 4, 2) := by decide +kernel
theorem dX8_voteOf_185 : decode cX8_voteOf 185 = .ok (.iconst 4, 1) := by decide +kernel
theorem dX8_voteOf_186 : decode cX8_voteOf 186 = .ok (.irem, 1) := by decide +kernel
theorem dX8_voteOf_187 : decode cX8_voteOf 187 = .ok (.ifCond .eq 21, 3) := by decide +kernel
theorem dX8_voteOf_190 : decode cX8_voteOf 190 = .ok (.iload 5, 2) := by decide +kernel
theorem dX8_voteOf_192 : decode cX8_voteOf 192 = .ok (.iload 8, 2) := by decide +kernel
theorem dX8_voteOf_194 : decode cX8_voteOf 194 = .ok (.ifCond .eq 7, 3) := by decide +kernel
theorem dX8_voteOf_197 : decode cX8_voteOf 197 = .ok (.iconst 2, 1) := by decide +kernel
theorem dX8_voteOf_198 : decode cX8_voteOf 198 = .ok (.goto 4, 3) := by decide +kernel
theorem dX8_voteOf_201 : decode cX8_voteOf 201 = .ok (.iconst 0, 1) := by decide +kernel
theorem dX8_voteOf_202 : decode cX8_voteOf 202 = .ok (.iadd, 1) := by decide +kernel
theorem dX8_voteOf_203 : decode cX8_voteOf 203 = .ok (.istore 5, 2) := by decide +kernel
theorem dX8_voteOf_205 : decode cX8_voteOf 205 = .ok (.goto 29, 3) := by decide +kernel
theorem dX8_voteOf_208 : decode cX8_voteOf 208 = .ok (.iload 8, 2) := by decide +kernel
theorem dX8_voteOf_210 : decode cX8_voteOf 210 = .ok (.ifCond .ne 24, 3) := by decide +kernel
theorem dX8_voteOf_213 : decode cX8_voteOf 213 = .ok (.aload_n 0, 1) := by decide +kernel
theorem dX8_voteOf_214 : decode cX8_voteOf 214 = .ok (.getfield 31, 3) := by decide +kernel
theorem dX8_voteOf_217 : decode cX8_voteOf 217 = .ok (.bipush 8, 2) := by decide +kernel
theorem dX8_voteOf_219 : decode cX8_voteOf 219 = .ok (.iload_n 1, 1) := by decide +kernel
theorem dX8_voteOf_220 : decode cX8_voteOf 220 = .ok (.imul, 1) := by decide +kernel
theorem dX8_voteOf_221 : decode cX8_voteOf 221 = .ok (.iconst 4, 1) := by decide +kernel
theorem dX8_voteOf_222 : decode cX8_voteOf 222 = .ok (.iadd, 1) := by decide +kernel
theorem dX8_voteOf_223 : decode cX8_voteOf 223 = .ok (.iaload, 1) := by decide +kernel
theorem dX8_voteOf_224 : decode cX8_voteOf 224 = .ok (.ifCond .ge 7, 3) := by decide +kernel
theorem dX8_voteOf_227 : decode cX8_voteOf 227 = .ok (.iconst 1, 1) := by decide +kernel
theorem dX8_voteOf_228 : decode cX8_voteOf 228 = .ok (.goto 4, 3) := by decide +kernel
theorem dX8_voteOf_231 : decode cX8_voteOf 231 = .ok (.iconst 0, 1) := by decide +kernel
theorem dX8_voteOf_232 : decode cX8_voteOf 232 = .ok (.istore 5, 2) := by decide +kernel
theorem dX8_voteOf_234 : decode cX8_voteOf 234 = .ok (.aload_n 0, 1) := by decide +kernel
theorem dX8_voteOf_235 : decode cX8_voteOf 235 = .ok (.getfield 68, 3) := by decide +kernel
theorem dX8_voteOf_238 : decode cX8_voteOf 238 = .ok (.iload_n 3, 1) := by decide +kernel
theorem dX8_voteOf_239 : decode cX8_voteOf 239 = .ok (.iload 5, 2) := by decide +kernel
theorem dX8_voteOf_241 : decode cX8_voteOf 241 = .ok (.iconst 1, 1) := by decide +kernel
theorem dX8_voteOf_242 : decode cX8_voteOf 242 = .ok (.iadd, 1) := by decide +kernel
theorem dX8_voteOf_243 : decode cX8_voteOf 243 = .ok (.i2b, 1) := by decide +kernel
theorem dX8_voteOf_244 : decode cX8_voteOf 244 = .ok (.bastore, 1) := by decide +kernel
theorem dX8_voteOf_245 : decode cX8_voteOf 245 = .ok (.iload 5, 2) := by decide +kernel
theorem dX8_voteOf_247 : decode cX8_voteOf 247 = .ok (.ireturn, 1) := by decide +kernel
theorem dX8_octet_0 : decode cX8_octet 0 = .ok (.aload_n 0, 1) := by decide +kernel
theorem dX8_octet_1 : decode cX8_octet 1 = .ok (.getfield 99, 3) := by decide +kernel
theorem dX8_octet_4 : decode cX8_octet 4 = .ok (.aload_n 0, 1) := by decide +kernel
theorem dX8_octet_5 : decode cX8_octet 5 = .ok (.dup, 1) := by decide +kernel
theorem dX8_octet_6 : decode cX8_octet 6 = .ok (.getfield 244, 3) := by decide +kernel
theorem dX8_octet_9 : decode cX8_octet 9 = .ok (.dup_x1, 1) := by decide +kernel
theorem dX8_octet_10 : decode cX8_octet 10 = .ok (.iconst 1, 1) := by decide +kernel
theorem dX8_octet_11 : decode cX8_octet 11 = .ok (.iadd, 1) := by decide +kernel
theorem dX8_octet_12 : decode cX8_octet 12 = .ok (.putfield 244, 3) := by decide +kernel
theorem dX8_octet_15 : decode cX8_octet 15 = .ok (.iload_n 1, 1) := by decide +kernel
theorem dX8_octet_16 : decode cX8_octet 16 = .ok (.sipush 255, 3) := by decide +kernel
theorem dX8_octet_19 : decode cX8_octet 19 = .ok (.iand, 1) := by decide +kernel
theorem dX8_octet_20 : decode cX8_octet 20 = .ok (.iastore, 1) := by decide +kernel
theorem dX8_octet_21 : decode cX8_octet 21 = .ok (.return_, 1) := by decide +kernel
theorem dX8_four_0 : decode cX8_four 0 = .ok (.bipush 24, 2) := by decide +kernel
theorem dX8_four_2 : decode cX8_four 2 = .ok (.istore_n 2, 1) := by decide +kernel
theorem dX8_four_3 : decode cX8_four 3 = .ok (.iload_n 2, 1) := by decide +kernel
theorem dX8_four_4 : decode cX8_four 4 = .ok (.ifCond .lt 16, 3) := by decide +kernel
theorem dX8_four_7 : decode cX8_four 7 = .ok (.aload_n 0, 1) := by decide +kernel
theorem dX8_four_8 : decode cX8_four 8 = .ok (.iload_n 1, 1) := by decide +kernel
theorem dX8_four_9 : decode cX8_four 9 = .ok (.iload_n 2, 1) := by decide +kernel
theorem dX8_four_10 : decode cX8_four 10 = .ok (.ishr, 1) := by decide +kernel
theorem dX8_four_11 : decode cX8_four 11 = .ok (.invokevirtual 247, 3) := by decide +kernel
theorem dX8_four_14 : decode cX8_four 14 = .ok (.iinc 2 (-8), 3) := by decide +kernel
theorem dX8_four_17 : decode cX8_four 17 = .ok (.goto (-14), 3) := by decide +kernel
theorem dX8_four_20 : decode cX8_four 20 = .ok (.return_, 1) := by decide +kernel
theorem dX8_hash_0 : decode cX8_hash 0 = .ok (.aload_n 0, 1) := by decide +kernel
theorem dX8_hash_1 : decode cX8_hash 1 = .ok (.iconst 0, 1) := by decide +kernel
theorem dX8_hash_2 : decode cX8_hash 2 = .ok (.putfield 244, 3) := by decide +kernel
theorem dX8_hash_5 : decode cX8_hash 5 = .ok (.aload_n 0, 1) := by decide +kernel
theorem dX8_hash_6 : decode cX8_hash 6 = .ok (.aload_n 0, 1) := by decide +kernel
theorem dX8_hash_7 : decode cX8_hash 7 = .ok (.getfield 9, 3) := by decide +kernel
theorem dX8_hash_10 : decode cX8_hash 10 = .ok (.iload_n 1, 1) := by decide +kernel
theorem dX8_hash_11 : decode cX8_hash 11 = .ok (.iaload, 1) := by decide +kernel
theorem dX8_hash_12 : decode cX8_hash 12 = .ok (.invokevirtual 247, 3) := by decide +kernel
theorem dX8_hash_15 : decode cX8_hash 15 = .ok (.iconst 0, 1) := by decide +kernel
theorem dX8_hash_16 : decode cX8_hash 16 = .ok (.istore_n 2, 1) := by decide +kernel
theorem dX8_hash_17 : decode cX8_hash 17 = .ok (.iload_n 2, 1) := by decide +kernel
theorem dX8_hash_18 : decode cX8_hash 18 = .ok (.bipush 8, 2) := by decide +kernel
theorem dX8_hash_20 : decode cX8_hash 20 = .ok (.if_icmp .ge 42, 3) := by decide +kernel
theorem dX8_hash_23 : decode cX8_hash 23 = .ok (.aload_n 0, 1) := by decide +kernel
theorem dX8_hash_24 : decode cX8_hash 24 = .ok (.aload_n 0, 1) := by decide +kernel
theorem dX8_hash_25 : decode cX8_hash 25 = .ok (.getfield 13, 3) := by decide +kernel
theorem dX8_hash_28 : decode cX8_hash 28 = .ok (.iload_n 1, 1) := by decide +kernel
theorem dX8_hash_29 : decode cX8_hash 29 = .ok (.iaload, 1) := by decide +kernel
theorem dX8_hash_30 : decode cX8_hash 30 = .ok (.ifCond .ge 7, 3) := by decide +kernel
theorem dX8_hash_33 : decode cX8_hash 33 = .ok (.iconst 0, 1) := by decide +kernel
theorem dX8_hash_34 : decode cX8_hash 34 = .ok (.goto 19, 3) := by decide +kernel
theorem dX8_hash_37 : decode cX8_hash 37 = .ok (.aload_n 0, 1) := by decide +kernel
theorem dX8_hash_38 : decode cX8_hash 38 = .ok (.getfield 31, 3) := by decide +kernel
theorem dX8_hash_41 : decode cX8_hash 41 = .ok (.bipush 8, 2) := by decide +kernel
theorem dX8_hash_43 : decode cX8_hash 43 = .ok (.aload_n 0, 1) := by decide +kernel
theorem dX8_hash_44 : decode cX8_hash 44 = .ok (.getfield 13, 3) := by decide +kernel
theorem dX8_hash_47 : decode cX8_hash 47 = .ok (.iload_n 1, 1) := by decide +kernel
theorem dX8_hash_48 : decode cX8_hash 48 = .ok (.iaload, 1) := by decide +kernel
theorem dX8_hash_49 : decode cX8_hash 49 = .ok (.imul, 1) := by decide +kernel
theorem dX8_hash_50 : decode cX8_hash 50 = .ok (.iload_n 2, 1) := by decide +kernel
theorem dX8_hash_51 : decode cX8_hash 51 = .ok (.iadd, 1) := by decide +kernel
theorem dX8_hash_52 : decode cX8_hash 52 = .ok (.iaload, 1) := by decide +kernel
theorem dX8_hash_53 : decode cX8_hash 53 = .ok (.invokevirtual 250, 3) := by decide +kernel
theorem dX8_hash_56 : decode cX8_hash 56 = .ok (.iinc 2 1, 3) := by decide +kernel
theorem dX8_hash_59 : decode cX8_hash 59 = .ok (.goto (-42), 3) := by decide +kernel
theorem dX8_hash_62 : decode cX8_hash 62 = .ok (.iconst 0, 1) := by decide +kernel
theorem dX8_hash_63 : decode cX8_hash 63 = .ok (.istore_n 2, 1) := by decide +kernel
theorem dX8_hash_64 : decode cX8_hash 64 = .ok (.iload_n 2, 1) := by decide +kernel
theorem dX8_hash_65 : decode cX8_hash 65 = .ok (.bipush 8, 2) := by decide +kernel
theorem dX8_hash_67 : decode cX8_hash 67 = .ok (.if_icmp .ge 42, 3) := by decide +kernel
theorem dX8_hash_70 : decode cX8_hash 70 = .ok (.aload_n 0, 1) := by decide +kernel
theorem dX8_hash_71 : decode cX8_hash 71 = .ok (.aload_n 0, 1) := by decide +kernel
theorem dX8_hash_72 : decode cX8_hash 72 = .ok (.getfield 16, 3) := by decide +kernel
theorem dX8_hash_75 : decode cX8_hash 75 = .ok (.iload_n 1, 1) := by decide +kernel
theorem dX8_hash_76 : decode cX8_hash 76 = .ok (.iaload, 1) := by decide +kernel
theorem dX8_hash_77 : decode cX8_hash 77 = .ok (.ifCond .ge 7, 3) := by decide +kernel
theorem dX8_hash_80 : decode cX8_hash 80 = .ok (.iconst 0, 1) := by decide +kernel
theorem dX8_hash_81 : decode cX8_hash 81 = .ok (.goto 19, 3) := by decide +kernel
theorem dX8_hash_84 : decode cX8_hash 84 = .ok (.aload_n 0, 1) := by decide +kernel
theorem dX8_hash_85 : decode cX8_hash 85 = .ok (.getfield 31, 3) := by decide +kernel
theorem dX8_hash_88 : decode cX8_hash 88 = .ok (.bipush 8, 2) := by decide +kernel
theorem dX8_hash_90 : decode cX8_hash 90 = .ok (.aload_n 0, 1) := by decide +kernel
theorem dX8_hash_91 : decode cX8_hash 91 = .ok (.getfield 16, 3) := by decide +kernel
theorem dX8_hash_94 : decode cX8_hash 94 = .ok (.iload_n 1, 1) := by decide +kernel
theorem dX8_hash_95 : decode cX8_hash 95 = .ok (.iaload, 1) := by decide +kernel
theorem dX8_hash_96 : decode cX8_hash 96 = .ok (.imul, 1) := by decide +kernel
theorem dX8_hash_97 : decode cX8_hash 97 = .ok (.iload_n 2, 1) := by decide +kernel
theorem dX8_hash_98 : decode cX8_hash 98 = .ok (.iadd, 1) := by decide +kernel
theorem dX8_hash_99 : decode cX8_hash 99 = .ok (.iaload, 1) := by decide +kernel
theorem dX8_hash_100 : decode cX8_hash 100 = .ok (.invokevirtual 250, 3) := by decide +kernel
theorem dX8_hash_103 : decode cX8_hash 103 = .ok (.iinc 2 1, 3) := by decide +kernel
theorem dX8_hash_106 : decode cX8_hash 106 = .ok (.goto (-42), 3) := by decide +kernel
theorem dX8_hash_109 : decode cX8_hash 109 = .ok (.aload_n 0, 1) := by decide +kernel
theorem dX8_hash_110 : decode cX8_hash 110 = .ok (.aload_n 0, 1) := by decide +kernel
theorem dX8_hash_111 : decode cX8_hash 111 = .ok (.getfield 46, 3) := by decide +kernel
theorem dX8_hash_114 : decode cX8_hash 114 = .ok (.iload_n 1, 1) := by decide +kernel
theorem dX8_hash_115 : decode cX8_hash 115 = .ok (.laload, 1) := by decide +kernel
theorem dX8_hash_116 : decode cX8_hash 116 = .ok (.bipush 32, 2) := by decide +kernel
theorem dX8_hash_118 : decode cX8_hash 118 = .ok (.lshr, 1) := by decide +kernel
theorem dX8_hash_119 : decode cX8_hash 119 = .ok (.l2i, 1) := by decide +kernel
theorem dX8_hash_120 : decode cX8_hash 120 = .ok (.invokevirtual 250, 3) := by decide +kernel
theorem dX8_hash_123 : decode cX8_hash 123 = .ok (.aload_n 0, 1) := by decide +kernel
theorem dX8_hash_124 : decode cX8_hash 124 = .ok (.aload_n 0, 1) := by decide +kernel
theorem dX8_hash_125 : decode cX8_hash 125 = .ok (.getfield 46, 3) := by decide +kernel
theorem dX8_hash_128 : decode cX8_hash 128 = .ok (.iload_n 1, 1) := by decide +kernel
theorem dX8_hash_129 : decode cX8_hash 129 = .ok (.laload, 1) := by decide +kernel
theorem dX8_hash_130 : decode cX8_hash 130 = .ok (.l2i, 1) := by decide +kernel
theorem dX8_hash_131 : decode cX8_hash 131 = .ok (.invokevirtual 250, 3) := by decide +kernel
theorem dX8_hash_134 : decode cX8_hash 134 = .ok (.aload_n 0, 1) := by decide +kernel
theorem dX8_hash_135 : decode cX8_hash 135 = .ok (.aload_n 0, 1) := by decide +kernel
theorem dX8_hash_136 : decode cX8_hash 136 = .ok (.getfield 19, 3) := by decide +kernel
theorem dX8_hash_139 : decode cX8_hash 139 = .ok (.iload_n 1, 1) := by decide +kernel
theorem dX8_hash_140 : decode cX8_hash 140 = .ok (.iaload, 1) := by decide +kernel
theorem dX8_hash_141 : decode cX8_hash 141 = .ok (.invokevirtual 247, 3) := by decide +kernel
theorem dX8_hash_144 : decode cX8_hash 144 = .ok (.iconst 0, 1) := by decide +kernel
theorem dX8_hash_145 : decode cX8_hash 145 = .ok (.istore_n 2, 1) := by decide +kernel
theorem dX8_hash_146 : decode cX8_hash 146 = .ok (.iload_n 2, 1) := by decide +kernel
theorem dX8_hash_147 : decode cX8_hash 147 = .ok (.aload_n 0, 1) := by decide +kernel
theorem dX8_hash_148 : decode cX8_hash 148 = .ok (.getfield 19, 3) := by decide +kernel
theorem dX8_hash_151 : decode cX8_hash 151 = .ok (.iload_n 1, 1) := by decide +kernel
theorem dX8_hash_152 : decode cX8_hash 152 = .ok (.iaload, 1) := by decide +kernel
theorem dX8_hash_153 : decode cX8_hash 153 = .ok (.if_icmp .ge 37, 3) := by decide +kernel
theorem dX8_hash_156 : decode cX8_hash 156 = .ok (.aload_n 0, 1) := by decide +kernel
theorem dX8_hash_157 : decode cX8_hash 157 = .ok (.aload_n 0, 1) := by decide +kernel
theorem dX8_hash_158 : decode cX8_hash 158 = .ok (.getfield 22, 3) := by decide +kernel
theorem dX8_hash_161 : decode cX8_hash 161 = .ok (.iconst 3, 1) := by decide +kernel
theorem dX8_hash_162 : decode cX8_hash 162 = .ok (.iload_n 1, 1) := by decide +kernel
theorem dX8_hash_163 : decode cX8_hash 163 = .ok (.imul, 1) := by decide +kernel
theorem dX8_hash_164 : decode cX8_hash 164 = .ok (.iload_n 2, 1) := by decide +kernel
theorem dX8_hash_165 : decode cX8_hash 165 = .ok (.iadd, 1) := by decide +kernel
theorem dX8_hash_166 : decode cX8_hash 166 = .ok (.iaload, 1) := by decide +kernel
theorem dX8_hash_167 : decode cX8_hash 167 = .ok (.invokevirtual 247, 3) := by decide +kernel
theorem dX8_hash_170 : decode cX8_hash 170 = .ok (.aload_n 0, 1) := by decide +kernel
theorem dX8_hash_171 : decode cX8_hash 171 = .ok (.aload_n 0, 1) := by decide +kernel
theorem dX8_hash_172 : decode cX8_hash 172 = .ok (.getfield 25, 3) := by decide +kernel
theorem dX8_hash_175 : decode cX8_hash 175 = .ok (.iconst 3, 1) := by decide +kernel
theorem dX8_hash_176 : decode cX8_hash 176 = .ok (.iload_n 1, 1) := by decide +kernel
theorem dX8_hash_177 : decode cX8_hash 177 = .ok (.imul, 1) := by decide +kernel
theorem dX8_hash_178 : decode cX8_hash 178 = .ok (.iload_n 2, 1) := by decide +kernel
theorem dX8_hash_179 : decode cX8_hash 179 = .ok (.iadd, 1) := by decide +kernel
theorem dX8_hash_180 : decode cX8_hash 180 = .ok (.iaload, 1) := by decide +kernel
theorem dX8_hash_181 : decode cX8_hash 181 = .ok (.invokevirtual 250, 3) := by decide +kernel
theorem dX8_hash_184 : decode cX8_hash 184 = .ok (.iinc 2 1, 3) := by decide +kernel
theorem dX8_hash_187 : decode cX8_hash 187 = .ok (.goto (-41), 3) := by decide +kernel
theorem dX8_hash_190 : decode cX8_hash 190 = .ok (.bipush 8, 2) := by decide +kernel
theorem dX8_hash_192 : decode cX8_hash 192 = .ok (.aload_n 0, 1) := by decide +kernel
theorem dX8_hash_193 : decode cX8_hash 193 = .ok (.getfield 244, 3) := by decide +kernel
theorem dX8_hash_196 : decode cX8_hash 196 = .ok (.imul, 1) := by decide +kernel
theorem dX8_hash_197 : decode cX8_hash 197 = .ok (.istore_n 2, 1) := by decide +kernel
theorem dX8_hash_198 : decode cX8_hash 198 = .ok (.aload_n 0, 1) := by decide +kernel
theorem dX8_hash_199 : decode cX8_hash 199 = .ok (.sipush 128, 3) := by decide +kernel
theorem dX8_hash_202 : decode cX8_hash 202 = .ok (.invokevirtual 247, 3) := by decide +kernel
theorem dX8_hash_205 : decode cX8_hash 205 = .ok (.aload_n 0, 1) := by decide +kernel
theorem dX8_hash_206 : decode cX8_hash 206 = .ok (.getfield 244, 3) := by decide +kernel
theorem dX8_hash_209 : decode cX8_hash 209 = .ok (.bipush 124, 2) := by decide +kernel
theorem dX8_hash_211 : decode cX8_hash 211 = .ok (.if_icmp .ge 11, 3) := by decide +kernel
theorem dX8_hash_214 : decode cX8_hash 214 = .ok (.aload_n 0, 1) := by decide +kernel
theorem dX8_hash_215 : decode cX8_hash 215 = .ok (.iconst 0, 1) := by decide +kernel
theorem dX8_hash_216 : decode cX8_hash 216 = .ok (.invokevirtual 247, 3) := by decide +kernel
theorem dX8_hash_219 : decode cX8_hash 219 = .ok (.goto (-14), 3) := by decide +kernel
theorem dX8_hash_222 : decode cX8_hash 222 = .ok (.aload_n 0, 1) := by decide +kernel
theorem dX8_hash_223 : decode cX8_hash 223 = .ok (.iload_n 2, 1) := by decide +kernel
theorem dX8_hash_224 : decode cX8_hash 224 = .ok (.invokevirtual 250, 3) := by decide +kernel
theorem dX8_hash_227 : decode cX8_hash 227 = .ok (.iconst 0, 1) := by decide +kernel
theorem dX8_hash_228 : decode cX8_hash 228 = .ok (.istore_n 3, 1) := by decide +kernel
theorem dX8_hash_229 : decode cX8_hash 229 = .ok (.iload_n 3, 1) := by decide +kernel
theorem dX8_hash_230 : decode cX8_hash 230 = .ok (.bipush 8, 2) := by decide +kernel
theorem dX8_hash_232 : decode cX8_hash 232 = .ok (.if_icmp .ge 21, 3) := by decide +kernel
theorem dX8_hash_235 : decode cX8_hash 235 = .ok (.aload_n 0, 1) := by decide +kernel
theorem dX8_hash_236 : decode cX8_hash 236 = .ok (.getfield 172, 3) := by decide +kernel
theorem dX8_hash_239 : decode cX8_hash 239 = .ok (.iload_n 3, 1) := by decide +kernel
theorem dX8_hash_240 : decode cX8_hash 240 = .ok (.aload_n 0, 1) := by decide +kernel
theorem dX8_hash_241 : decode cX8_hash 241 = .ok (.getfield 183, 3) := by decide +kernel
theorem dX8_hash_244 : decode cX8_hash 244 = .ok (.iload_n 3, 1) := by decide +kernel
theorem dX8_hash_245 : decode cX8_hash 245 = .ok (.iaload, 1) := by decide +kernel
theorem dX8_hash_246 : decode cX8_hash 246 = .ok (.iastore, 1) := by decide +kernel
theorem dX8_hash_247 : decode cX8_hash 247 = .ok (.iinc 3 1, 3) := by decide +kernel
theorem dX8_hash_250 : decode cX8_hash 250 = .ok (.goto (-21), 3) := by decide +kernel
theorem dX8_hash_253 : decode cX8_hash 253 = .ok (.iconst 0, 1) := by decide +kernel
theorem dX8_hash_254 : decode cX8_hash 254 = .ok (.istore_n 3, 1) := by decide +kernel
theorem dX8_hash_255 : decode cX8_hash 255 = .ok (.iload_n 3, 1) := by decide +kernel
theorem dX8_hash_256 : decode cX8_hash 256 = .ok (.sipush 128, 3) := by decide +kernel
theorem dX8_hash_259 : decode cX8_hash 259 = .ok (.if_icmp .ge 14, 3) := by decide +kernel
theorem dX8_hash_262 : decode cX8_hash 262 = .ok (.aload_n 0, 1) := by decide +kernel
theorem dX8_hash_263 : decode cX8_hash 263 = .ok (.iload_n 3, 1) := by decide +kernel
theorem dX8_hash_264 : decode cX8_hash 264 = .ok (.invokevirtual 253, 3) := by decide +kernel
theorem dX8_hash_267 : decode cX8_hash 267 = .ok (.iinc 3 64, 3) := by decide +kernel
theorem dX8_hash_270 : decode cX8_hash 270 = .ok (.goto (-15), 3) := by decide +kernel
theorem dX8_hash_273 : decode cX8_hash 273 = .ok (.iconst 0, 1) := by decide +kernel
theorem dX8_hash_274 : decode cX8_hash 274 = .ok (.istore_n 3, 1) := by decide +kernel
theorem dX8_hash_275 : decode cX8_hash 275 = .ok (.iload_n 3, 1) := by decide +kernel
theorem dX8_hash_276 : decode cX8_hash 276 = .ok (.bipush 8, 2) := by decide +kernel
theorem dX8_hash_278 : decode cX8_hash 278 = .ok (.if_icmp .ge 26, 3) := by decide +kernel
theorem dX8_hash_281 : decode cX8_hash 281 = .ok (.aload_n 0, 1) := by decide +kernel
theorem dX8_hash_282 : decode cX8_hash 282 = .ok (.getfield 31, 3) := by decide +kernel
theorem dX8_hash_285 : decode cX8_hash 285 = .ok (.bipush 8, 2) := by decide +kernel
theorem dX8_hash_287 : decode cX8_hash 287 = .ok (.iload_n 1, 1) := by decide +kernel
theorem dX8_hash_288 : decode cX8_hash 288 = .ok (.imul, 1) := by decide +kernel
theorem dX8_hash_289 : decode cX8_hash 289 = .ok (.iload_n 3, 1) := by decide +kernel
theorem dX8_hash_290 : decode cX8_hash 290 = .ok (.iadd, 1) := by decide +kernel
theorem dX8_hash_291 : decode cX8_hash 291 = .ok (.aload_n 0, 1) := by decide +kernel
theorem dX8_hash_292 : decode cX8_hash 292 = .ok (.getfield 172, 3) := by decide +kernel
theorem dX8_hash_295 : decode cX8_hash 295 = .ok (.iload_n 3, 1) := by decide +kernel
theorem dX8_hash_296 : decode cX8_hash 296 = .ok (.iaload, 1) := by decide +kernel
theorem dX8_hash_297 : decode cX8_hash 297 = .ok (.iastore, 1) := by decide +kernel
theorem dX8_hash_298 : decode cX8_hash 298 = .ok (.iinc 3 1, 3) := by decide +kernel
theorem dX8_hash_301 : decode cX8_hash 301 = .ok (.goto (-26), 3) := by decide +kernel
theorem dX8_hash_304 : decode cX8_hash 304 = .ok (.return_, 1) := by decide +kernel
theorem dX8_turn_0 : decode cX8_turn 0 = .ok (.iload_n 0, 1) := by decide +kernel
theorem dX8_turn_1 : decode cX8_turn 1 = .ok (.iload_n 1, 1) := by decide +kernel
theorem dX8_turn_2 : decode cX8_turn 2 = .ok (.iushr, 1) := by decide +kernel
theorem dX8_turn_3 : decode cX8_turn 3 = .ok (.iload_n 0, 1) := by decide +kernel
theorem dX8_turn_4 : decode cX8_turn 4 = .ok (.bipush 32, 2) := by decide +kernel
theorem dX8_turn_6 : decode cX8_turn 6 = .ok (.iload_n 1, 1) := by decide +kernel
theorem dX8_turn_7 : decode cX8_turn 7 = .ok (.isub, 1) := by decide +kernel
theorem dX8_turn_8 : decode cX8_turn 8 = .ok (.ishl, 1) := by decide +kernel
theorem dX8_turn_9 : decode cX8_turn 9 = .ok (.ior, 1) := by decide +kernel
theorem dX8_turn_10 : decode cX8_turn 10 = .ok (.ireturn, 1) := by decide +kernel
theorem dX8_compress_0 : decode cX8_compress 0 = .ok (.iconst 0, 1) := by decide +kernel
theorem dX8_compress_1 : decode cX8_compress 1 = .ok (.istore_n 2, 1) := by decide +kernel
theorem dX8_compress_2 : decode cX8_compress 2 = .ok (.iload_n 2, 1) := by decide +kernel
theorem dX8_compress_3 : decode cX8_compress 3 = .ok (.bipush 16, 2) := by decide +kernel
theorem dX8_compress_5 : decode cX8_compress 5 = .ok (.if_icmp .ge 73, 3) := by decide +kernel
theorem dX8_compress_8 : decode cX8_compress 8 = .ok (.aload_n 0, 1) := by decide +kernel
theorem dX8_compress_9 : decode cX8_compress 9 = .ok (.getfield 102, 3) := by decide +kernel
theorem dX8_compress_12 : decode cX8_compress 12 = .ok (.iload_n 2, 1) := by decide +kernel
theorem dX8_compress_13 : decode cX8_compress 13 = .ok (.aload_n 0, 1) := by decide +kernel
theorem dX8_compress_14 : decode cX8_compress 14 = .ok (.getfield 99, 3) := by decide +kernel
theorem dX8_compress_17 : decode cX8_compress 17 = .ok (.iload_n 1, 1) := by decide +kernel
theorem dX8_compress_18 : decode cX8_compress 18 = .ok (.iconst 4, 1) := by decide +kernel
theorem dX8_compress_19 : decode cX8_compress 19 = .ok (.iload_n 2, 1) := by decide +kernel
theorem dX8_compress_20 : decode cX8_compress 20 = .ok (.imul, 1) := by decide +kernel
theorem dX8_compress_21 : decode cX8_compress 21 = .ok (.iadd, 1) := by decide +kernel
theorem dX8_compress_22 : decode cX8_compress 22 = .ok (.iaload, 1) := by decide +kernel
theorem dX8_compress_23 : decode cX8_compress 23 = .ok (.bipush 24, 2) := by decide +kernel
theorem dX8_compress_25 : decode cX8_compress 25 = .ok (.ishl, 1) := by decide +kernel
theorem dX8_compress_26 : decode cX8_compress 26 = .ok (.aload_n 0, 1) := by decide +kernel
theorem dX8_compress_27 : decode cX8_compress 27 = .ok (.getfield 99, 3) := by decide +kernel
theorem dX8_compress_30 : decode cX8_compress 30 = .ok (.iload_n 1, 1) := by decide +kernel
theorem dX8_compress_31 : decode cX8_compress 31 = .ok (.iconst 4, 1) := by decide +kernel
theorem dX8_compress_32 : decode cX8_compress 32 = .ok (.iload_n 2, 1) := by decide +kernel
theorem dX8_compress_33 : decode cX8_compress 33 = .ok (.imul, 1) := by decide +kernel
theorem dX8_compress_34 : decode cX8_compress 34 = .ok (.iadd, 1) := by decide +kernel
theorem dX8_compress_35 : decode cX8_compress 35 = .ok (.iconst 1, 1) := by decide +kernel
theorem dX8_compress_36 : decode cX8_compress 36 = .ok (.iadd, 1) := by decide +kernel
theorem dX8_compress_37 : decode cX8_compress 37 = .ok (.iaload, 1) := by decide +kernel
theorem dX8_compress_38 : decode cX8_compress 38 = .ok (.bipush 16, 2) := by decide +kernel
theorem dX8_compress_40 : decode cX8_compress 40 = .ok (.ishl, 1) := by decide +kernel
theorem dX8_compress_41 : decode cX8_compress 41 = .ok (.ior, 1) := by decide +kernel
theorem dX8_compress_42 : decode cX8_compress 42 = .ok (.aload_n 0, 1) := by decide +kernel
theorem dX8_compress_43 : decode cX8_compress 43 = .ok (.getfield 99, 3) := by decide +kernel
theorem dX8_compress_46 : decode cX8_compress 46 = .ok (.iload_n 1, 1) := by decide +kernel
theorem dX8_compress_47 : decode cX8_compress 47 = .ok (.iconst 4, 1) := by decide +kernel
theorem dX8_compress_48 : decode cX8_compress 48 = .ok (.iload_n 2, 1) := by decide +kernel
theorem dX8_compress_49 : decode cX8_compress 49 = .ok (.imul, 1) := by decide +kernel
theorem dX8_compress_50 : decode cX8_compress 50 = .ok (.iadd, 1) := by decide +kernel
theorem dX8_compress_51 : decode cX8_compress 51 = .ok (.iconst 2, 1) := by decide +kernel
theorem dX8_compress_52 : decode cX8_compress 52 = .ok (.iadd, 1) := by decide +kernel
theorem dX8_compress_53 : decode cX8_compress 53 = .ok (.iaload, 1) := by decide +kernel
theorem dX8_compress_54 : decode cX8_compress 54 = .ok (.bipush 8, 2) := by decide +kernel
theorem dX8_compress_56 : decode cX8_compress 56 = .ok (.ishl, 1) := by decide +kernel
theorem dX8_compress_57 : decode cX8_compress 57 = .ok (.ior, 1) := by decide +kernel
theorem dX8_compress_58 : decode cX8_compress 58 = .ok (.aload_n 0, 1) := by decide +kernel
theorem dX8_compress_59 : decode cX8_compress 59 = .ok (.getfield 99, 3) := by decide +kernel
theorem dX8_compress_62 : decode cX8_compress 62 = .ok (.iload_n 1, 1) := by decide +kernel
theorem dX8_compress_63 : decode cX8_compress 63 = .ok (.iconst 4, 1) := by decide +kernel
theorem dX8_compress_64 : decode cX8_compress 64 = .ok (.iload_n 2, 1) := by decide +kernel
theorem dX8_compress_65 : decode cX8_compress 65 = .ok (.imul, 1) := by decide +kernel
theorem dX8_compress_66 : decode cX8_compress 66 = .ok (.iadd, 1) := by decide +kernel
theorem dX8_compress_67 : decode cX8_compress 67 = .ok (.iconst 3, 1) := by decide +kernel
theorem dX8_compress_68 : decode cX8_compress 68 = .ok (.iadd, 1) := by decide +kernel
theorem dX8_compress_69 : decode cX8_compress 69 = .ok (.iaload, 1) := by decide +kernel
theorem dX8_compress_70 : decode cX8_compress 70 = .ok (.ior, 1) := by decide +kernel
theorem dX8_compress_71 : decode cX8_compress 71 = .ok (.iastore, 1) := by decide +kernel
theorem dX8_compress_72 : decode cX8_compress 72 = .ok (.iinc 2 1, 3) := by decide +kernel
theorem dX8_compress_75 : decode cX8_compress 75 = .ok (.goto (-73), 3) := by decide +kernel
theorem dX8_compress_78 : decode cX8_compress 78 = .ok (.bipush 16, 2) := by decide +kernel
theorem dX8_compress_80 : decode cX8_compress 80 = .ok (.istore_n 2, 1) := by decide +kernel
theorem dX8_compress_81 : decode cX8_compress 81 = .ok (.iload_n 2, 1) := by decide +kernel
theorem dX8_compress_82 : decode cX8_compress 82 = .ok (.bipush 64, 2) := by decide +kernel
theorem dX8_compress_84 : decode cX8_compress 84 = .ok (.if_icmp .ge 94, 3) := by decide +kernel
theorem dX8_compress_87 : decode cX8_compress 87 = .ok (.aload_n 0, 1) := by decide +kernel
theorem dX8_compress_88 : decode cX8_compress 88 = .ok (.getfield 102, 3) := by decide +kernel
theorem dX8_compress_91 : decode cX8_compress 91 = .ok (.iload_n 2, 1) := by decide +kernel
theorem dX8_compress_92 : decode cX8_compress 92 = .ok (.bipush 15, 2) := by decide +kernel
theorem dX8_compress_94 : decode cX8_compress 94 = .ok (.isub, 1) := by decide +kernel
theorem dX8_compress_95 : decode cX8_compress 95 = .ok (.iaload, 1) := by decide +kernel
theorem dX8_compress_96 : decode cX8_compress 96 = .ok (.istore_n 3, 1) := by decide +kernel
theorem dX8_compress_97 : decode cX8_compress 97 = .ok (.aload_n 0, 1) := by decide +kernel
theorem dX8_compress_98 : decode cX8_compress 98 = .ok (.getfield 102, 3) := by decide +kernel
theorem dX8_compress_101 : decode cX8_compress 101 = .ok (.iload_n 2, 1) := by decide +kernel
theorem dX8_compress_102 : decode cX8_compress 102 = .ok (.iconst 2, 1) := by decide +kernel
theorem dX8_compress_103 : decode cX8_compress 103 = .ok (.isub, 1) := by decide +kernel
theorem dX8_compress_104 : decode cX8_compress 104 = .ok (.iaload, 1) := by decide +kernel
theorem dX8_compress_105 : decode cX8_compress 105 = .ok (.istore 4, 2) := by decide +kernel
theorem dX8_compress_107 : decode cX8_compress 107 = .ok (.aload_n 0, 1) := by decide +kernel
theorem dX8_compress_108 : decode cX8_compress 108 = .ok (.getfield 102, 3) := by decide +kernel
theorem dX8_compress_111 : decode cX8_compress 111 = .ok (.iload_n 2, 1) := by decide +kernel
theorem dX8_compress_112 : decode cX8_compress 112 = .ok (.aload_n 0, 1) := by decide +kernel
theorem dX8_compress_113 : decode cX8_compress 113 = .ok (.getfield 102, 3) := by decide +kernel
theorem dX8_compress_116 : decode cX8_compress 116 = .ok (.iload_n 2, 1) := by decide +kernel
theorem dX8_compress_117 : decode cX8_compress 117 = .ok (.bipush 16, 2) := by decide +kernel
theorem dX8_compress_119 : decode cX8_compress 119 = .ok (.isub, 1) := by decide +kernel
theorem dX8_compress_120 : decode cX8_compress 120 = .ok (.iaload, 1) := by decide +kernel
theorem dX8_compress_121 : decode cX8_compress 121 = .ok (.iload_n 3, 1) := by decide +kernel
theorem dX8_compress_122 : decode cX8_compress 122 = .ok (.bipush 7, 2) := by decide +kernel
theorem dX8_compress_124 : decode cX8_compress 124 = .ok (.invokestatic 256, 3) := by decide +kernel
theorem dX8_compress_127 : decode cX8_compress 127 = .ok (.iload_n 3, 1) := by decide +kernel
theorem dX8_compress_128 : decode cX8_compress 128 = .ok (.bipush 18, 2) := by decide +kernel
theorem dX8_compress_130 : decode cX8_compress 130 = .ok (.invokestatic 256, 3) := by decide +kernel
theorem dX8_compress_133 : decode cX8_compress 133 = .ok (.ixor, 1) := by decide +kernel
theorem dX8_compress_134 : decode cX8_compress 134 = .ok (.iload_n 3, 1) := by decide +kernel
theorem dX8_compress_135 : decode cX8_compress 135 = .ok (.iconst 3, 1) := by decide +kernel
theorem dX8_compress_136 : decode cX8_compress 136 = .ok (.iushr, 1) := by decide +kernel
theorem dX8_compress_137 : decode cX8_compress 137 = .ok (.ixor, 1) := by decide +kernel
theorem dX8_compress_138 : decode cX8_compress 138 = .ok (.iadd, 1) := by decide +kernel
theorem dX8_compress_139 : decode cX8_compress 139 = .ok (.aload_n 0, 1) := by decide +kernel
theorem dX8_compress_140 : decode cX8_compress 140 = .ok (.getfield 102, 3) := by decide +kernel
theorem dX8_compress_143 : decode cX8_compress 143 = .ok (.iload_n 2, 1) := by decide +kernel
theorem dX8_compress_144 : decode cX8_compress 144 = .ok (.bipush 7, 2) := by decide +kernel
theorem dX8_compress_146 : decode cX8_compress 146 = .ok (.isub, 1) := by decide +kernel
theorem dX8_compress_147 : decode cX8_compress 147 = .ok (.iaload, 1) := by decide +kernel
theorem dX8_compress_148 : decode cX8_compress 148 = .ok (.iadd, 1) := by decide +kernel
theorem dX8_compress_149 : decode cX8_compress 149 = .ok (.iload 4, 2) := by decide +kernel
theorem dX8_compress_151 : decode cX8_compress 151 = .ok (.bipush 17, 2) := by decide +kernel
theorem dX8_compress_153 : decode cX8_compress 153 = .ok (.invokestatic 256, 3) := by decide +kernel
theorem dX8_compress_156 : decode cX8_compress 156 = .ok (.iload 4, 2) := by decide +kernel
theorem dX8_compress_158 : decode cX8_compress 158 = .ok (.bipush 19, 2) := by decide +kernel
theorem dX8_compress_160 : decode cX8_compress 160 = .ok (.invokestatic 256, 3) := by decide +kernel
theorem dX8_compress_163 : decode cX8_compress 163 = .ok (.ixor, 1) := by decide +kernel
theorem dX8_compress_164 : decode cX8_compress 164 = .ok (.iload 4, 2) := by decide +kernel
theorem dX8_compress_166 : decode cX8_compress 166 = .ok (.bipush 10, 2) := by decide +kernel
theorem dX8_compress_168 : decode cX8_compress 168 = .ok (.iushr, 1) := by decide +kernel
theorem dX8_compress_169 : decode cX8_compress 169 = .ok (.ixor, 1) := by decide +kernel
theorem dX8_compress_170 : decode cX8_compress 170 = .ok (.iadd, 1) := by decide +kernel
theorem dX8_compress_171 : decode cX8_compress 171 = .ok (.iastore, 1) := by decide +kernel
theorem dX8_compress_172 : decode cX8_compress 172 = .ok (.iinc 2 1, 3) := by decide +kernel
theorem dX8_compress_175 : decode cX8_compress 175 = .ok (.goto (-94), 3) := by decide +kernel
theorem dX8_compress_178 : decode cX8_compress 178 = .ok (.aload_n 0, 1) := by decide +kernel
theorem dX8_compress_179 : decode cX8_compress 179 = .ok (.getfield 172, 3) := by decide +kernel
theorem dX8_compress_182 : decode cX8_compress 182 = .ok (.iconst 0, 1) := by decide +kernel
theorem dX8_compress_183 : decode cX8_compress 183 = .ok (.iaload, 1) := by decide +kernel
theorem dX8_compress_184 : decode cX8_compress 184 = .ok (.istore_n 2, 1) := by decide +kernel
theorem dX8_compress_185 : decode cX8_compress 185 = .ok (.aload_n 0, 1) := by decide +kernel
theorem dX8_compress_186 : decode cX8_compress 186 = .ok (.getfield 172, 3) := by decide +kernel
theorem dX8_compress_189 : decode cX8_compress 189 = .ok (.iconst 1, 1) := by decide +kernel
theorem dX8_compress_190 : decode cX8_compress 190 = .ok (.iaload, 1) := by decide +kernel
theorem dX8_compress_191 : decode cX8_compress 191 = .ok (.istore_n 3, 1) := by decide +kernel
theorem dX8_compress_192 : decode cX8_compress 192 = .ok (.aload_n 0, 1) := by decide +kernel
theorem dX8_compress_193 : decode cX8_compress 193 = .ok (.getfield 172, 3) := by decide +kernel
theorem dX8_compress_196 : decode cX8_compress 196 = .ok (.iconst 2, 1) := by decide +kernel
theorem dX8_compress_197 : decode cX8_compress 197 = .ok (.iaload, 1) := by decide +kernel
theorem dX8_compress_198 : decode cX8_compress 198 = .ok (.istore 4, 2) := by decide +kernel
theorem dX8_compress_200 : decode cX8_compress 200 = .ok (.aload_n 0, 1) := by decide +kernel
theorem dX8_compress_201 : decode cX8_compress 201 = .ok (.getfield 172, 3) := by decide +kernel
theorem dX8_compress_204 : decode cX8_compress 204 = .ok (.iconst 3, 1) := by decide +kernel
theorem dX8_compress_205 : decode cX8_compress 205 = .ok (.iaload, 1) := by decide +kernel
theorem dX8_compress_206 : decode cX8_compress 206 = .ok (.istore 5, 2) := by decide +kernel
theorem dX8_compress_208 : decode cX8_compress 208 = .ok (.aload_n 0, 1) := by decide +kernel
theorem dX8_compress_209 : decode cX8_compress 209 = .ok (.getfield 172, 3) := by decide +kernel
theorem dX8_compress_212 : decode cX8_compress 212 = .ok (.iconst 4, 1) := by decide +kernel
theorem dX8_compress_213 : decode cX8_compress 213 = .ok (.iaload, 1) := by decide +kernel
theorem dX8_compress_214 : decode cX8_compress 214 = .ok (.istore 6, 2) := by decide +kernel
theorem dX8_compress_216 : decode cX8_compress 216 = .ok (.aload_n 0, 1) := by decide +kernel
theorem dX8_compress_217 : decode cX8_compress 217 = .ok (.getfield 172, 3) := by decide +kernel
theorem dX8_compress_220 : decode cX8_compress 220 = .ok (.iconst 5, 1) := by decide +kernel
theorem dX8_compress_221 : decode cX8_compress 221 = .ok (.iaload, 1) := by decide +kernel
theorem dX8_compress_222 : decode cX8_compress 222 = .ok (.istore 7, 2) := by decide +kernel
theorem dX8_compress_224 : decode cX8_compress 224 = .ok (.aload_n 0, 1) := by decide +kernel
theorem dX8_compress_225 : decode cX8_compress 225 = .ok (.getfield 172, 3) := by decide +kernel
theorem dX8_compress_228 : decode cX8_compress 228 = .ok (.bipush 6, 2) := by decide +kernel
theorem dX8_compress_230 : decode cX8_compress 230 = .ok (.iaload, 1) := by decide +kernel
theorem dX8_compress_231 : decode cX8_compress 231 = .ok (.istore 8, 2) := by decide +kernel
theorem dX8_compress_233 : decode cX8_compress 233 = .ok (.aload_n 0, 1) := by decide +kernel
theorem dX8_compress_234 : decode cX8_compress 234 = .ok (.getfield 172, 3) := by decide +kernel
theorem dX8_compress_237 : decode cX8_compress 237 = .ok (.bipush 7, 2) := by decide +kernel
theorem dX8_compress_239 : decode cX8_compress 239 = .ok (.iaload, 1) := by decide +kernel
theorem dX8_compress_240 : decode cX8_compress 240 = .ok (.istore 9, 2) := by decide +kernel
theorem dX8_compress_242 : decode cX8_compress 242 = .ok (.iconst 0, 1) := by decide +kernel
theorem dX8_compress_243 : decode cX8_compress 243 = .ok (.istore 10, 2) := by decide +kernel
theorem dX8_compress_245 : decode cX8_compress 245 = .ok (.iload 10, 2) := by decide +kernel
theorem dX8_compress_247 : decode cX8_compress 247 = .ok (.bipush 64, 2) := by decide +kernel
theorem dX8_compress_249 : decode cX8_compress 249 = .ok (.if_icmp .ge 136, 3) := by decide +kernel
theorem dX8_compress_252 : decode cX8_compress 252 = .ok (.iload 9, 2) := by decide +kernel
theorem dX8_compress_254 : decode cX8_compress 254 = .ok (.iload 6, 2) := by decide +kernel
theorem dX8_compress_256 : decode cX8_compress 256 = .ok (.bipush 6, 2) := by decide +kernel
theorem dX8_compress_258 : decode cX8_compress 258 = .ok (.invokestatic 256, 3) := by decide +kernel
theorem dX8_compress_261 : decode cX8_compress 261 = .ok (.iload 6, 2) := by decide +kernel
theorem dX8_compress_263 : decode cX8_compress 263 = .ok (.bipush 11, 2) := by decide +kernel
theorem dX8_compress_265 : decode cX8_compress 265 = .ok (.invokestatic 256, 3) := by decide +kernel
theorem dX8_compress_268 : decode cX8_compress 268 = .ok (.ixor, 1) := by decide +kernel
theorem dX8_compress_269 : decode cX8_compress 269 = .ok (.iload 6, 2) := by decide +kernel
theorem dX8_compress_271 : decode cX8_compress 271 = .ok (.bipush 25, 2) := by decide +kernel
theorem dX8_compress_273 : decode cX8_compress 273 = .ok (.invokestatic 256, 3) := by decide +kernel
theorem dX8_compress_276 : decode cX8_compress 276 = .ok (.ixor, 1) := by decide +kernel
theorem dX8_compress_277 : decode cX8_compress 277 = .ok (.iadd, 1) := by decide +kernel
theorem dX8_compress_278 : decode cX8_compress 278 = .ok (.iload 6, 2) := by decide +kernel
theorem dX8_compress_280 : decode cX8_compress 280 = .ok (.iload 7, 2) := by decide +kernel
theorem dX8_compress_282 : decode cX8_compress 282 = .ok (.iand, 1) := by decide +kernel
theorem dX8_compress_283 : decode cX8_compress 283 = .ok (.iload 6, 2) := by decide +kernel
theorem dX8_compress_285 : decode cX8_compress 285 = .ok (.iconst (-1), 1) := by decide +kernel
theorem dX8_compress_286 : decode cX8_compress 286 = .ok (.ixor, 1) := by decide +kernel
theorem dX8_compress_287 : decode cX8_compress 287 = .ok (.iload 8, 2) := by decide +kernel
theorem dX8_compress_289 : decode cX8_compress 289 = .ok (.iand, 1) := by decide +kernel
theorem dX8_compress_290 : decode cX8_compress 290 = .ok (.ixor, 1) := by decide +kernel
theorem dX8_compress_291 : decode cX8_compress 291 = .ok (.iadd, 1) := by decide +kernel
theorem dX8_compress_292 : decode cX8_compress 292 = .ok (.aload_n 0, 1) := by decide +kernel
theorem dX8_compress_293 : decode cX8_compress 293 = .ok (.getfield 169, 3) := by decide +kernel
theorem dX8_compress_296 : decode cX8_compress 296 = .ok (.iload 10, 2) := by decide +kernel
theorem dX8_compress_298 : decode cX8_compress 298 = .ok (.iaload, 1) := by decide +kernel
theorem dX8_compress_299 : decode cX8_compress 299 = .ok (.iadd, 1) := by decide +kernel
theorem dX8_compress_300 : decode cX8_compress 300 = .ok (.aload_n 0, 1) := by decide +kernel
theorem dX8_compress_301 : decode cX8_compress 301 = .ok (.getfield 102, 3) := by decide +kernel
theorem dX8_compress_304 : decode cX8_compress 304 = .ok (.iload 10, 2) := by decide +kernel
theorem dX8_compress_306 : decode cX8_compress 306 = .ok (.iaload, 1) := by decide +kernel
theorem dX8_compress_307 : decode cX8_compress 307 = .ok (.iadd, 1) := by decide +kernel
theorem dX8_compress_308 : decode cX8_compress 308 = .ok (.istore 11, 2) := by decide +kernel
theorem dX8_compress_310 : decode cX8_compress 310 = .ok (.iload_n 2, 1) := by decide +kernel
theorem dX8_compress_311 : decode cX8_compress 311 = .ok (.iconst 2, 1) := by decide +kernel
theorem dX8_compress_312 : decode cX8_compress 312 = .ok (.invokestatic 256, 3) := by decide +kernel
theorem dX8_compress_315 : decode cX8_compress 315 = .ok (.iload_n 2, 1) := by decide +kernel
theorem dX8_compress_316 : decode cX8_compress 316 = .ok (.bipush 13, 2) := by decide +kernel
theorem dX8_compress_318 : decode cX8_compress 318 = .ok (.invokestatic 256, 3) := by decide +kernel
theorem dX8_compress_321 : decode cX8_compress 321 = .ok (.ixor, 1) := by decide +kernel
theorem dX8_compress_322 : decode cX8_compress 322 = .ok (.iload_n 2, 1) := by decide +kernel
theorem dX8_compress_323 : decode cX8_compress 323 = .ok (.bipush 22, 2) := by decide +kernel
theorem dX8_compress_325 : decode cX8_compress 325 = .ok (.invokestatic 256, 3) := by decide +kernel
theorem dX8_compress_328 : decode cX8_compress 328 = .ok (.ixor, 1) := by decide +kernel
theorem dX8_compress_329 : decode cX8_compress 329 = .ok (.iload_n 2, 1) := by decide +kernel
theorem dX8_compress_330 : decode cX8_compress 330 = .ok (.iload_n 3, 1) := by decide +kernel
theorem dX8_compress_331 : decode cX8_compress 331 = .ok (.iand, 1) := by decide +kernel
theorem dX8_compress_332 : decode cX8_compress 332 = .ok (.iload_n 2, 1) := by decide +kernel
theorem dX8_compress_333 : decode cX8_compress 333 = .ok (.iload 4, 2) := by decide +kernel
theorem dX8_compress_335 : decode cX8_compress 335 = .ok (.iand, 1) := by decide +kernel
theorem dX8_compress_336 : decode cX8_compress 336 = .ok (.ixor, 1) := by decide +kernel
theorem dX8_compress_337 : decode cX8_compress 337 = .ok (.iload_n 3, 1) := by decide +kernel
theorem dX8_compress_338 : decode cX8_compress 338 = .ok (.iload 4, 2) := by decide +kernel
theorem dX8_compress_340 : decode cX8_compress 340 = .ok (.iand, 1) := by decide +kernel
theorem dX8_compress_341 : decode cX8_compress 341 = .ok (.ixor, 1) := by decide +kernel
theorem dX8_compress_342 : decode cX8_compress 342 = .ok (.iadd, 1) := by decide +kernel
theorem dX8_compress_343 : decode cX8_compress 343 = .ok (.istore 12, 2) := by decide +kernel
theorem dX8_compress_345 : decode cX8_compress 345 = .ok (.iload 8, 2) := by decide +kernel
theorem dX8_compress_347 : decode cX8_compress 347 = .ok (.istore 9, 2) := by decide +kernel
theorem dX8_compress_349 : decode cX8_compress 349 = .ok (.iload 7, 2) := by decide +kernel
theorem dX8_compress_351 : decode cX8_compress 351 = .ok (.istore 8, 2) := by decide +kernel
theorem dX8_compress_353 : decode cX8_compress 353 = .ok (.iload 6, 2) := by decide +kernel
theorem dX8_compress_355 : decode cX8_compress 355 = .ok (.istore 7, 2) := by decide +kernel
theorem dX8_compress_357 : decode cX8_compress 357 = .ok (.iload 5, 2) := by decide +kernel
theorem dX8_compress_359 : decode cX8_compress 359 = .ok (.iload 11, 2) := by decide +kernel
theorem dX8_compress_361 : decode cX8_compress 361 = .ok (.iadd, 1) := by decide +kernel
theorem dX8_compress_362 : decode cX8_compress 362 = .ok (.istore 6, 2) := by decide +kernel
theorem dX8_compress_364 : decode cX8_compress 364 = .ok (.iload 4, 2) := by decide +kernel
theorem dX8_compress_366 : decode cX8_compress 366 = .ok (.istore 5, 2) := by decide +kernel
theorem dX8_compress_368 : decode cX8_compress 368 = .ok (.iload_n 3, 1) := by decide +kernel
theorem dX8_compress_369 : decode cX8_compress 369 = .ok (.istore 4, 2) := by decide +kernel
theorem dX8_compress_371 : decode cX8_compress 371 = .ok (.iload_n 2, 1) := by decide +kernel
theorem dX8_compress_372 : decode cX8_compress 372 = .ok (.istore_n 3, 1) := by decide +kernel
theorem dX8_compress_373 : decode cX8_compress 373 = .ok (.iload 11, 2) := by decide +kernel
theorem dX8_compress_375 : decode cX8_compress 375 = .ok (.iload 12, 2) := by decide +kernel
theorem dX8_compress_377 : decode cX8_compress 377 = .ok (.iadd, 1) := by decide +kernel
theorem dX8_compress_378 : decode cX8_compress 378 = .ok (.istore_n 2, 1) := by decide +kernel
theorem dX8_compress_379 : decode cX8_compress 379 = .ok (.iinc 10 1, 3) := by decide +kernel
theorem dX8_compress_382 : decode cX8_compress 382 = .ok (.goto (-137), 3) := by decide +kernel
theorem dX8_compress_385 : decode cX8_compress 385 = .ok (.aload_n 0, 1) := by decide +kernel
theorem dX8_compress_386 : decode cX8_compress 386 = .ok (.getfield 172, 3) := by decide +kernel
theorem dX8_compress_389 : decode cX8_compress 389 = .ok (.iconst 0, 1) := by decide +kernel
theorem dX8_compress_390 : decode cX8_compress 390 = .ok (.dup2, 1) := by decide +kernel
theorem dX8_compress_391 : decode cX8_compress 391 = .ok (.iaload, 1) := by decide +kernel
theorem dX8_compress_392 : decode cX8_compress 392 = .ok (.iload_n 2, 1) := by decide +kernel
theorem dX8_compress_393 : decode cX8_compress 393 = .ok (.iadd, 1) := by decide +kernel
theorem dX8_compress_394 : decode cX8_compress 394 = .ok (.iastore, 1) := by decide +kernel
theorem dX8_compress_395 : decode cX8_compress 395 = .ok (.aload_n 0, 1) := by decide +kernel
theorem dX8_compress_396 : decode cX8_compress 396 = .ok (.getfield 172, 3) := by decide +kernel
theorem dX8_compress_399 : decode cX8_compress 399 = .ok (.iconst 1, 1) := by decide +kernel
theorem dX8_compress_400 : decode cX8_compress 400 = .ok (.dup2, 1) := by decide +kernel
theorem dX8_compress_401 : decode cX8_compress 401 = .ok (.iaload, 1) := by decide +kernel
theorem dX8_compress_402 : decode cX8_compress 402 = .ok (.iload_n 3, 1) := by decide +kernel
theorem dX8_compress_403 : decode cX8_compress 403 = .ok (.iadd, 1) := by decide +kernel
theorem dX8_compress_404 : decode cX8_compress 404 = .ok (.iastore, 1) := by decide +kernel
theorem dX8_compress_405 : decode cX8_compress 405 = .ok (.aload_n 0, 1) := by decide +kernel
theorem dX8_compress_406 : decode cX8_compress 406 = .ok (.getfield 172, 3) := by decide +kernel
theorem dX8_compress_409 : decode cX8_compress 409 = .ok (.iconst 2, 1) := by decide +kernel
theorem dX8_compress_410 : decode cX8_compress 410 = .ok (.dup2, 1) := by decide +kernel
theorem dX8_compress_411 : decode cX8_compress 411 = .ok (.iaload, 1) := by decide +kernel
theorem dX8_compress_412 : decode cX8_compress 412 = .ok (.iload 4, 2) := by decide +kernel
theorem dX8_compress_414 : decode cX8_compress 414 = .ok (.iadd, 1) := by decide +kernel
theorem dX8_compress_415 : decode cX8_compress 415 = .ok (.iastore, 1) := by decide +kernel
theorem dX8_compress_416 : decode cX8_compress 416 = .ok (.aload_n 0, 1) := by decide +kernel
theorem dX8_compress_417 : decode cX8_compress 417 = .ok (.getfield 172, 3) := by decide +kernel
theorem dX8_compress_420 : decode cX8_compress 420 = .ok (.iconst 3, 1) := by decide +kernel
theorem dX8_compress_421 : decode cX8_compress 421 = .ok (.dup2, 1) := by decide +kernel
theorem dX8_compress_422 : decode cX8_compress 422 = .ok (.iaload, 1) := by decide +kernel
theorem dX8_compress_423 : decode cX8_compress 423 = .ok (.iload 5, 2) := by decide +kernel
theorem dX8_compress_425 : decode cX8_compress 425 = .ok (.iadd, 1) := by decide +kernel
theorem dX8_compress_426 : decode cX8_compress 426 = .ok (.iastore, 1) := by decide +kernel
theorem dX8_compress_427 : decode cX8_compress 427 = .ok (.aload_n 0, 1) := by decide +kernel
theorem dX8_compress_428 : decode cX8_compress 428 = .ok (.getfield 172, 3) := by decide +kernel
theorem dX8_compress_431 : decode cX8_compress 431 = .ok (.iconst 4, 1) := by decide +kernel
theorem dX8_compress_432 : decode cX8_compress 432 = .ok (.dup2, 1) := by decide +kernel
theorem dX8_compress_433 : decode cX8_compress 433 = .ok (.iaload, 1) := by decide +kernel
theorem dX8_compress_434 : decode cX8_compress 434 = .ok (.iload 6, 2) := by decide +kernel
theorem dX8_compress_436 : decode cX8_compress 436 = .ok (.iadd, 1) := by decide +kernel
theorem dX8_compress_437 : decode cX8_compress 437 = .ok (.iastore, 1) := by decide +kernel
theorem dX8_compress_438 : decode cX8_compress 438 = .ok (.aload_n 0, 1) := by decide +kernel
theorem dX8_compress_439 : decode cX8_compress 439 = .ok (.getfield 172, 3) := by decide +kernel
theorem dX8_compress_442 : decode cX8_compress 442 = .ok (.iconst 5, 1) := by decide +kernel
theorem dX8_compress_443 : decode cX8_compress 443 = .ok (.dup2, 1) := by decide +kernel
theorem dX8_compress_444 : decode cX8_compress 444 = .ok (.iaload, 1) := by decide +kernel
theorem dX8_compress_445 : decode cX8_compress 445 = .ok (.iload 7, 2) := by decide +kernel
theorem dX8_compress_447 : decode cX8_compress 447 = .ok (.iadd, 1) := by decide +kernel
theorem dX8_compress_448 : decode cX8_compress 448 = .ok (.iastore, 1) := by decide +kernel
theorem dX8_compress_449 : decode cX8_compress 449 = .ok (.aload_n 0, 1) := by decide +kernel
theorem dX8_compress_450 : decode cX8_compress 450 = .ok (.getfield 172, 3) := by decide +kernel
theorem dX8_compress_453 : decode cX8_compress 453 = .ok (.bipush 6, 2) := by decide +kernel
theorem dX8_compress_455 : decode cX8_compress 455 = .ok (.dup2, 1) := by decide +kernel
theorem dX8_compress_456 : decode cX8_compress 456 = .ok (.iaload, 1) := by decide +kernel
theorem dX8_compress_457 : decode cX8_compress 457 = .ok (.iload 8, 2) := by decide +kernel
theorem dX8_compress_459 : decode cX8_compress 459 = .ok (.iadd, 1) := by decide +kernel
theorem dX8_compress_460 : decode cX8_compress 460 = .ok (.iastore, 1) := by decide +kernel
theorem dX8_compress_461 : decode cX8_compress 461 = .ok (.aload_n 0, 1) := by decide +kernel
theorem dX8_compress_462 : decode cX8_compress 462 = .ok (.getfield 172, 3) := by decide +kernel
theorem dX8_compress_465 : decode cX8_compress 465 = .ok (.bipush 7, 2) := by decide +kernel
theorem dX8_compress_467 : decode cX8_compress 467 = .ok (.dup2, 1) := by decide +kernel
theorem dX8_compress_468 : decode cX8_compress 468 = .ok (.iaload, 1) := by decide +kernel
theorem dX8_compress_469 : decode cX8_compress 469 = .ok (.iload 9, 2) := by decide +kernel
theorem dX8_compress_471 : decode cX8_compress 471 = .ok (.iadd, 1) := by decide +kernel
theorem dX8_compress_472 : decode cX8_compress 472 = .ok (.iastore, 1) := by decide +kernel
theorem dX8_compress_473 : decode cX8_compress 473 = .ok (.return_, 1) := by decide +kernel
theorem dX8_submit_0 : decode cX8_submit 0 = .ok (.aload_n 0, 1) := by decide +kernel
theorem dX8_submit_1 : decode cX8_submit 1 = .ok (.iconst 0, 1) := by decide +kernel
theorem dX8_submit_2 : decode cX8_submit 2 = .ok (.putfield 190, 3) := by decide +kernel
theorem dX8_submit_5 : decode cX8_submit 5 = .ok (.aload_n 0, 1) := by decide +kernel
theorem dX8_submit_6 : decode cX8_submit 6 = .ok (.aload_n 0, 1) := by decide +kernel
theorem dX8_submit_7 : decode cX8_submit 7 = .ok (.iload_n 1, 1) := by decide +kernel
theorem dX8_submit_8 : decode cX8_submit 8 = .ok (.invokevirtual 259, 3) := by decide +kernel
theorem dX8_submit_11 : decode cX8_submit 11 = .ok (.ifCond .eq 22, 3) := by decide +kernel
theorem dX8_submit_14 : decode cX8_submit 14 = .ok (.aload_n 0, 1) := by decide +kernel
theorem dX8_submit_15 : decode cX8_submit 15 = .ok (.iload_n 2, 1) := by decide +kernel
theorem dX8_submit_16 : decode cX8_submit 16 = .ok (.invokevirtual 259, 3) := by decide +kernel
theorem dX8_submit_19 : decode cX8_submit 19 = .ok (.ifCond .eq 14, 3) := by decide +kernel
theorem dX8_submit_22 : decode cX8_submit 22 = .ok (.iload_n 3, 1) := by decide +kernel
theorem dX8_submit_23 : decode cX8_submit 23 = .ok (.iconst 0, 1) := by decide +kernel
theorem dX8_submit_24 : decode cX8_submit 24 = .ok (.ldc_w 262, 3) := by decide +kernel
theorem dX8_submit_27 : decode cX8_submit 27 = .ok (.invokestatic 196, 3) := by decide +kernel
theorem dX8_submit_30 : decode cX8_submit 30 = .ok (.ifCond .ne 7, 3) := by decide +kernel
theorem dX8_submit_33 : decode cX8_submit 33 = .ok (.iconst 1, 1) := by decide +kernel
theorem dX8_submit_34 : decode cX8_submit 34 = .ok (.goto 4, 3) := by decide +kernel
theorem dX8_submit_37 : decode cX8_submit 37 = .ok (.iconst 0, 1) := by decide +kernel
theorem dX8_submit_38 : decode cX8_submit 38 = .ok (.iconst 1, 1) := by decide +kernel
theorem dX8_submit_39 : decode cX8_submit 39 = .ok (.invokevirtual 203, 3) := by decide +kernel
theorem dX8_submit_42 : decode cX8_submit 42 = .ok (.ifCond .ne 27, 3) := by decide +kernel
theorem dX8_submit_45 : decode cX8_submit 45 = .ok (.aload_n 0, 1) := by decide +kernel
theorem dX8_submit_46 : decode cX8_submit 46 = .ok (.aload_n 0, 1) := by decide +kernel
theorem dX8_submit_47 : decode cX8_submit 47 = .ok (.getfield 37, 3) := by decide +kernel
theorem dX8_submit_50 : decode cX8_submit 50 = .ok (.iload_n 1, 1) := by decide +kernel
theorem dX8_submit_51 : decode cX8_submit 51 = .ok (.iaload, 1) := by decide +kernel
theorem dX8_submit_52 : decode cX8_submit 52 = .ok (.bipush 8, 2) := by decide +kernel
theorem dX8_submit_54 : decode cX8_submit 54 = .ok (.if_icmp .ne 7, 3) := by decide +kernel
theorem dX8_submit_57 : decode cX8_submit 57 = .ok (.iconst 1, 1) := by decide +kernel
theorem dX8_submit_58 : decode cX8_submit 58 = .ok (.goto 4, 3) := by decide +kernel
theorem dX8_submit_61 : decode cX8_submit 61 = .ok (.iconst 0, 1) := by decide +kernel
theorem dX8_submit_62 : decode cX8_submit 62 = .ok (.iconst 2, 1) := by decide +kernel
theorem dX8_submit_63 : decode cX8_submit 63 = .ok (.invokevirtual 203, 3) := by decide +kernel
theorem dX8_submit_66 : decode cX8_submit 66 = .ok (.ifCond .eq 5, 3) := by decide +kernel
theorem dX8_submit_69 : decode cX8_submit 69 = .ok (.iconst 0, 1) := by decide +kernel
theorem dX8_submit_70 : decode cX8_submit 70 = .ok (.ireturn, 1) := by decide +kernel
theorem dX8_submit_71 : decode cX8_submit 71 = .ok (.aload_n 0, 1) := by decide +kernel
theorem dX8_submit_72 : decode cX8_submit 72 = .ok (.getfield 40, 3) := by decide +kernel
theorem dX8_submit_75 : decode cX8_submit 75 = .ok (.bipush 8, 2) := by decide +kernel
theorem dX8_submit_77 : decode cX8_submit 77 = .ok (.iload_n 1, 1) := by decide +kernel
theorem dX8_submit_78 : decode cX8_submit 78 = .ok (.imul, 1) := by decide +kernel
theorem dX8_submit_79 : decode cX8_submit 79 = .ok (.aload_n 0, 1) := by decide +kernel
theorem dX8_submit_80 : decode cX8_submit 80 = .ok (.getfield 37, 3) := by decide +kernel
theorem dX8_submit_83 : decode cX8_submit 83 = .ok (.iload_n 1, 1) := by decide +kernel
theorem dX8_submit_84 : decode cX8_submit 84 = .ok (.iaload, 1) := by decide +kernel
theorem dX8_submit_85 : decode cX8_submit 85 = .ok (.iadd, 1) := by decide +kernel
theorem dX8_submit_86 : decode cX8_submit 86 = .ok (.iload_n 2, 1) := by decide +kernel
theorem dX8_submit_87 : decode cX8_submit 87 = .ok (.iastore, 1) := by decide +kernel
theorem dX8_submit_88 : decode cX8_submit 88 = .ok (.aload_n 0, 1) := by decide +kernel
theorem dX8_submit_89 : decode cX8_submit 89 = .ok (.getfield 43, 3) := by decide +kernel
theorem dX8_submit_92 : decode cX8_submit 92 = .ok (.bipush 8, 2) := by decide +kernel
theorem dX8_submit_94 : decode cX8_submit 94 = .ok (.iload_n 1, 1) := by decide +kernel
theorem dX8_submit_95 : decode cX8_submit 95 = .ok (.imul, 1) := by decide +kernel
theorem dX8_submit_96 : decode cX8_submit 96 = .ok (.aload_n 0, 1) := by decide +kernel
theorem dX8_submit_97 : decode cX8_submit 97 = .ok (.getfield 37, 3) := by decide +kernel
theorem dX8_submit_100 : decode cX8_submit 100 = .ok (.iload_n 1, 1) := by decide +kernel
theorem dX8_submit_101 : decode cX8_submit 101 = .ok (.iaload, 1) := by decide +kernel
theorem dX8_submit_102 : decode cX8_submit 102 = .ok (.iadd, 1) := by decide +kernel
theorem dX8_submit_103 : decode cX8_submit 103 = .ok (.iload_n 3, 1) := by decide +kernel
theorem dX8_submit_104 : decode cX8_submit 104 = .ok (.iastore, 1) := by decide +kernel
theorem dX8_submit_105 : decode cX8_submit 105 = .ok (.aload_n 0, 1) := by decide +kernel
theorem dX8_submit_106 : decode cX8_submit 106 = .ok (.getfield 37, 3) := by decide +kernel
theorem dX8_submit_109 : decode cX8_submit 109 = .ok (.iload_n 1, 1) := by decide +kernel
theorem dX8_submit_110 : decode cX8_submit 110 = .ok (.dup2, 1) := by decide +kernel
theorem dX8_submit_111 : decode cX8_submit 111 = .ok (.iaload, 1) := by decide +kernel
theorem dX8_submit_112 : decode cX8_submit 112 = .ok (.iconst 1, 1) := by decide +kernel
theorem dX8_submit_113 : decode cX8_submit 113 = .ok (.iadd, 1) := by decide +kernel
theorem dX8_submit_114 : decode cX8_submit 114 = .ok (.dup_x2, 1) := by decide +kernel
theorem dX8_submit_115 : decode cX8_submit 115 = .ok (.iastore, 1) := by decide +kernel
theorem dX8_submit_116 : decode cX8_submit 116 = .ok (.ireturn, 1) := by decide +kernel
theorem dX8_sync_0 : decode cX8_sync 0 = .ok (.aload_n 0, 1) := by decide +kernel
theorem dX8_sync_1 : decode cX8_sync 1 = .ok (.iconst 0, 1) := by decide +kernel
theorem dX8_sync_2 : decode cX8_sync 2 = .ok (.putfield 190, 3) := by decide +kernel
theorem dX8_sync_5 : decode cX8_sync 5 = .ok (.aload_n 0, 1) := by decide +kernel
theorem dX8_sync_6 : decode cX8_sync 6 = .ok (.aload_n 0, 1) := by decide +kernel
theorem dX8_sync_7 : decode cX8_sync 7 = .ok (.iload_n 1, 1) := by decide +kernel
theorem dX8_sync_8 : decode cX8_sync 8 = .ok (.invokevirtual 259, 3) := by decide +kernel
theorem dX8_sync_11 : decode cX8_sync 11 = .ok (.ifCond .eq 16, 3) := by decide +kernel
theorem dX8_sync_14 : decode cX8_sync 14 = .ok (.aload_n 0, 1) := by decide +kernel
theorem dX8_sync_15 : decode cX8_sync 15 = .ok (.iload_n 2, 1) := by decide +kernel
theorem dX8_sync_16 : decode cX8_sync 16 = .ok (.invokevirtual 259, 3) := by decide +kernel
theorem dX8_sync_19 : decode cX8_sync 19 = .ok (.ifCond .eq 8, 3) := by decide +kernel
theorem dX8_sync_22 : decode cX8_sync 22 = .ok (.iload_n 1, 1) := by decide +kernel
theorem dX8_sync_23 : decode cX8_sync 23 = .ok (.iload_n 2, 1) := by decide +kernel
theorem dX8_sync_24 : decode cX8_sync 24 = .ok (.if_icmp .ne 7, 3) := by decide +kernel
theorem dX8_sync_27 : decode cX8_sync 27 = .ok (.iconst 1, 1) := by decide +kernel
theorem dX8_sync_28 : decode cX8_sync 28 = .ok (.goto 4, 3) := by decide +kernel
theorem dX8_sync_31 : decode cX8_sync 31 = .ok (.iconst 0, 1) := by decide +kernel
theorem dX8_sync_32 : decode cX8_sync 32 = .ok (.iconst 1, 1) := by decide +kernel
theorem dX8_sync_33 : decode cX8_sync 33 = .ok (.invokevirtual 203, 3) := by decide +kernel
theorem dX8_sync_36 : decode cX8_sync 36 = .ok (.ifCond .ne 26, 3) := by decide +kernel
theorem dX8_sync_39 : decode cX8_sync 39 = .ok (.aload_n 0, 1) := by decide +kernel
theorem dX8_sync_40 : decode cX8_sync 40 = .ok (.aload_n 0, 1) := by decide +kernel
theorem dX8_sync_41 : decode cX8_sync 41 = .ok (.getfield 200, 3) := by decide +kernel
theorem dX8_sync_44 : decode cX8_sync 44 = .ok (.sipush 240, 3) := by decide +kernel
theorem dX8_sync_47 : decode cX8_sync 47 = .ok (.if_icmp .ne 7, 3) := by decide +kernel
theorem dX8_sync_50 : decode cX8_sync 50 = .ok (.iconst 1, 1) := by decide +kernel
theorem dX8_sync_51 : decode cX8_sync 51 = .ok (.goto 4, 3) := by decide +kernel
theorem dX8_sync_54 : decode cX8_sync 54 = .ok (.iconst 0, 1) := by decide +kernel
theorem dX8_sync_55 : decode cX8_sync 55 = .ok (.iconst 2, 1) := by decide +kernel
theorem dX8_sync_56 : decode cX8_sync 56 = .ok (.invokevirtual 203, 3) := by decide +kernel
theorem dX8_sync_59 : decode cX8_sync 59 = .ok (.ifCond .eq 5, 3) := by decide +kernel
theorem dX8_sync_62 : decode cX8_sync 62 = .ok (.iconst 0, 1) := by decide +kernel
theorem dX8_sync_63 : decode cX8_sync 63 = .ok (.ireturn, 1) := by decide +kernel
theorem dX8_sync_64 : decode cX8_sync 64 = .ok (.iconst 0, 1) := by decide +kernel
theorem dX8_sync_65 : decode cX8_sync 65 = .ok (.istore 5, 2) := by decide +kernel
theorem dX8_sync_67 : decode cX8_sync 67 = .ok (.iload 5, 2) := by decide +kernel
theorem dX8_sync_69 : decode cX8_sync 69 = .ok (.aload_n 0, 1) := by decide +kernel
theorem dX8_sync_70 : decode cX8_sync 70 = .ok (.getfield 200, 3) := by decide +kernel
theorem dX8_sync_73 : decode cX8_sync 73 = .ok (.if_icmp .ge 39, 3) := by decide +kernel
theorem dX8_sync_76 : decode cX8_sync 76 = .ok (.aload_n 0, 1) := by decide +kernel
theorem dX8_sync_77 : decode cX8_sync 77 = .ok (.getfield 55, 3) := by decide +kernel
theorem dX8_sync_80 : decode cX8_sync 80 = .ok (.sipush 240, 3) := by decide +kernel
theorem dX8_sync_83 : decode cX8_sync 83 = .ok (.iload_n 1, 1) := by decide +kernel
theorem dX8_sync_84 : decode cX8_sync 84 = .ok (.imul, 1) := by decide +kernel
theorem dX8_sync_85 : decode cX8_sync 85 = .ok (.iload 5, 2) := by decide +kernel
theorem dX8_sync_87 : decode cX8_sync 87 = .ok (.iadd, 1) := by decide +kernel
theorem dX8_sync_88 : decode cX8_sync 88 = .ok (.baload, 1) := by decide +kernel
theorem dX8_sync_89 : decode cX8_sync 89 = .ok (.ifCond .eq 17, 3) := by decide +kernel
theorem dX8_sync_92 : decode cX8_sync 92 = .ok (.aload_n 0, 1) := by decide +kernel
theorem dX8_sync_93 : decode cX8_sync 93 = .ok (.getfield 55, 3) := by decide +kernel
theorem dX8_sync_96 : decode cX8_sync 96 = .ok (.sipush 240, 3) := by decide +kernel
theorem dX8_sync_99 : decode cX8_sync 99 = .ok (.iload_n 2, 1) := by decide +kernel
theorem dX8_sync_100 : decode cX8_sync 100 = .ok (.imul, 1) := by decide +kernel
theorem dX8_sync_101 : decode cX8_sync 101 = .ok (.iload 5, 2) := by decide +kernel
theorem dX8_sync_103 : decode cX8_sync 103 = .ok (.iadd, 1) := by decide +kernel
theorem dX8_sync_104 : decode cX8_sync 104 = .ok (.iconst 1, 1) := by decide +kernel
theorem dX8_sync_105 : decode cX8_sync 105 = .ok (.bastore, 1) := by decide +kernel
theorem dX8_sync_106 : decode cX8_sync 106 = .ok (.iinc 5 1, 3) := by decide +kernel
theorem dX8_sync_109 : decode cX8_sync 109 = .ok (.goto (-42), 3) := by decide +kernel
theorem dX8_sync_112 : decode cX8_sync 112 = .ok (.aload_n 0, 1) := by decide +kernel
theorem dX8_sync_113 : decode cX8_sync 113 = .ok (.getfield 37, 3) := by decide +kernel
theorem dX8_sync_116 : decode cX8_sync 116 = .ok (.iload_n 2, 1) := by decide +kernel
theorem dX8_sync_117 : decode cX8_sync 117 = .ok (.iaload, 1) := by decide +kernel
theorem dX8_sync_118 : decode cX8_sync 118 = .ok (.iconst 3, 1) := by decide +kernel
theorem dX8_sync_119 : decode cX8_sync 119 = .ok (.if_icmp .ge 12, 3) := by decide +kernel
theorem dX8_sync_122 : decode cX8_sync 122 = .ok (.aload_n 0, 1) := by decide +kernel
theorem dX8_sync_123 : decode cX8_sync 123 = .ok (.getfield 37, 3) := by decide +kernel
theorem dX8_sync_126 : decode cX8_sync 126 = .ok (.iload_n 2, 1) := by decide +kernel
theorem dX8_sync_127 : decode cX8_sync 127 = .ok (.iaload, 1) := by decide +kernel
theorem dX8_sync_128 : decode cX8_sync 128 = .ok (.goto 4, 3) := by decide +kernel
theorem dX8_sync_131 : decode cX8_sync 131 = .ok (.iconst 3, 1) := by decide +kernel
theorem dX8_sync_132 : decode cX8_sync 132 = .ok (.istore 5, 2) := by decide +kernel
theorem dX8_sync_134 : decode cX8_sync 134 = .ok (.aload_n 0, 1) := by decide +kernel
theorem dX8_sync_135 : decode cX8_sync 135 = .ok (.getfield 19, 3) := by decide +kernel
theorem dX8_sync_138 : decode cX8_sync 138 = .ok (.aload_n 0, 1) := by decide +kernel
theorem dX8_sync_139 : decode cX8_sync 139 = .ok (.getfield 200, 3) := by decide +kernel
theorem dX8_sync_142 : decode cX8_sync 142 = .ok (.iload 5, 2) := by decide +kernel
theorem dX8_sync_144 : decode cX8_sync 144 = .ok (.iastore, 1) := by decide +kernel
theorem dX8_sync_145 : decode cX8_sync 145 = .ok (.iconst 0, 1) := by decide +kernel
theorem dX8_sync_146 : decode cX8_sync 146 = .ok (.istore 6, 2) := by decide +kernel
theorem dX8_sync_148 : decode cX8_sync 148 = .ok (.iload 6, 2) := by decide +kernel
theorem dX8_sync_150 : decode cX8_sync 150 = .ok (.iload 5, 2) := by decide +kernel
theorem dX8_sync_152 : decode cX8_sync 152 = .ok (.if_icmp .ge 61, 3) := by decide +kernel
theorem dX8_sync_155 : decode cX8_sync 155 = .ok (.aload_n 0, 1) := by decide +kernel
theorem dX8_sync_156 : decode cX8_sync 156 = .ok (.getfield 22, 3) := by decide +kernel
theorem dX8_sync_159 : decode cX8_sync 159 = .ok (.iconst 3, 1) := by decide +kernel
theorem dX8_sync_160 : decode cX8_sync 160 = .ok (.aload_n 0, 1) := by decide +kernel
theorem dX8_sync_161 : decode cX8_sync 161 = .ok (.getfield 200, 3) := by decide +kernel
theorem dX8_sync_164 : decode cX8_sync 164 = .ok (.imul, 1) := by decide +kernel
theorem dX8_sync_165 : decode cX8_sync 165 = .ok (.iload 6, 2) := by decide +kernel
theorem dX8_sync_167 : decode cX8_sync 167 = .ok (.iadd, 1) := by decide +kernel
theorem dX8_sync_168 : decode cX8_sync 168 = .ok (.aload_n 0, 1) := by decide +kernel
theorem dX8_sync_169 : decode cX8_sync 169 = .ok (.getfield 40, 3) := by decide +kernel
theorem dX8_sync_172 : decode cX8_sync 172 = .ok (.bipush 8, 2) := by decide +kernel
theorem dX8_sync_174 : decode cX8_sync 174 = .ok (.iload_n 2, 1) := by decide +kernel
theorem dX8_sync_175 : decode cX8_sync 175 = .ok (.imul, 1) := by decide +kernel
theorem dX8_sync_176 : decode cX8_sync 176 = .ok (.iload 6, 2) := by decide +kernel
theorem dX8_sync_178 : decode cX8_sync 178 = .ok (.iadd, 1) := by decide +kernel
theorem dX8_sync_179 : decode cX8_sync 179 = .ok (.iaload, 1) := by decide +kernel
theorem dX8_sync_180 : decode cX8_sync 180 = .ok (.iastore, 1) := by decide +kernel
theorem dX8_sync_181 : decode cX8_sync 181 = .ok (.aload_n 0, 1) := by decide +kernel
theorem dX8_sync_182 : decode cX8_sync 182 = .ok (.getfield 25, 3) := by decide +kernel
theorem dX8_sync_185 : decode cX8_sync 185 = .ok (.iconst 3, 1) := by decide +kernel
theorem dX8_sync_186 : decode cX8_sync 186 = .ok (.aload_n 0, 1) := by decide +kernel
theorem dX8_sync_187 : decode cX8_sync 187 = .ok (.getfield 200, 3) := by decide +kernel
theorem dX8_sync_190 : decode cX8_sync 190 = .ok (.imul, 1) := by decide +kernel
theorem dX8_sync_191 : decode cX8_sync 191 = .ok (.iload 6, 2) := by decide +kernel
theorem dX8_sync_193 : decode cX8_sync 193 = .ok (.iadd, 1) := by decide +kernel
theorem dX8_sync_194 : decode cX8_sync 194 = .ok (.aload_n 0, 1) := by decide +kernel
theorem dX8_sync_195 : decode cX8_sync 195 = .ok (.getfield 43, 3) := by decide +kernel
theorem dX8_sync_198 : decode cX8_sync 198 = .ok (.bipush 8, 2) := by decide +kernel
theorem dX8_sync_200 : decode cX8_sync 200 = .ok (.iload_n 2, 1) := by decide +kernel
theorem dX8_sync_201 : decode cX8_sync 201 = .ok (.imul, 1) := by decide +kernel
theorem dX8_sync_202 : decode cX8_sync 202 = .ok (.iload 6, 2) := by decide +kernel
theorem dX8_sync_204 : decode cX8_sync 204 = .ok (.iadd, 1) := by decide +kernel
theorem dX8_sync_205 : decode cX8_sync 205 = .ok (.iaload, 1) := by decide +kernel
theorem dX8_sync_206 : decode cX8_sync 206 = .ok (.iastore, 1) := by decide +kernel
theorem dX8_sync_207 : decode cX8_sync 207 = .ok (.iinc 6 1, 3) := by decide +kernel
theorem dX8_sync_210 : decode cX8_sync 210 = .ok (.goto (-62), 3) := by decide +kernel
theorem dX8_sync_213 : decode cX8_sync 213 = .ok (.iload 5, 2) := by decide +kernel
theorem dX8_sync_215 : decode cX8_sync 215 = .ok (.istore 6, 2) := by decide +kernel
theorem dX8_sync_217 : decode cX8_sync 217 = .ok (.iload 6, 2) := by decide +kernel
theorem dX8_sync_219 : decode cX8_sync 219 = .ok (.aload_n 0, 1) := by decide +kernel
theorem dX8_sync_220 : decode cX8_sync 220 = .ok (.getfield 37, 3) := by decide +kernel
theorem dX8_sync_223 : decode cX8_sync 223 = .ok (.iload_n 2, 1) := by decide +kernel
theorem dX8_sync_224 : decode cX8_sync 224 = .ok (.iaload, 1) := by decide +kernel
theorem dX8_sync_225 : decode cX8_sync 225 = .ok (.if_icmp .ge 63, 3) := by decide +kernel
theorem dX8_sync_228 : decode cX8_sync 228 = .ok (.aload_n 0, 1) := by decide +kernel
theorem dX8_sync_229 : decode cX8_sync 229 = .ok (.getfield 40, 3) := by decide +kernel
theorem dX8_sync_232 : decode cX8_sync 232 = .ok (.bipush 8, 2) := by decide +kernel
theorem dX8_sync_234 : decode cX8_sync 234 = .ok (.iload_n 2, 1) := by decide +kernel
theorem dX8_sync_235 : decode cX8_sync 235 = .ok (.imul, 1) := by decide +kernel
theorem dX8_sync_236 : decode cX8_sync 236 = .ok (.iload 6, 2) := by decide +kernel
theorem dX8_sync_238 : decode cX8_sync 238 = .ok (.iadd, 1) := by decide +kernel
theorem dX8_sync_239 : decode cX8_sync 239 = .ok (.iload 5, 2) := by decide +kernel
theorem dX8_sync_241 : decode cX8_sync 241 = .ok (.isub, 1) := by decide +kernel
theorem dX8_sync_242 : decode cX8_sync 242 = .ok (.aload_n 0, 1) := by decide +kernel
theorem dX8_sync_243 : decode cX8_sync 243 = .ok (.getfield 40, 3) := by decide +kernel
theorem dX8_sync_246 : decode cX8_sync 246 = .ok (.bipush 8, 2) := by decide +kernel
theorem dX8_sync_248 : decode cX8_sync 248 = .ok (.iload_n 2, 1) := by decide +kernel
theorem dX8_sync_249 : decode cX8_sync 249 = .ok (.imul, 1) := by decide +kernel
theorem dX8_sync_250 : decode cX8_sync 250 = .ok (.iload 6, 2) := by decide +kernel
theorem dX8_sync_252 : decode cX8_sync 252 = .ok (.iadd, 1) := by decide +kernel
theorem dX8_sync_253 : decode cX8_sync 253 = .ok (.iaload, 1) := by decide +kernel
theorem dX8_sync_254 : decode cX8_sync 254 = .ok (.iastore, 1) := by decide +kernel
theorem dX8_sync_255 : decode cX8_sync 255 = .ok (.aload_n 0, 1) := by decide +kernel
theorem dX8_sync_256 : decode cX8_sync 256 = .ok (.getfield 43, 3) := by decide +kernel
theorem dX8_sync_259 : decode cX8_sync 259 = .ok (.bipush 8, 2) := by decide +kernel
theorem dX8_sync_261 : decode cX8_sync 261 = .ok (.iload_n 2, 1) := by decide +kernel
theorem dX8_sync_262 : decode cX8_sync 262 = .ok (.imul, 1) := by decide +kernel
theorem dX8_sync_263 : decode cX8_sync 263 = .ok (.iload 6, 2) := by decide +kernel
theorem dX8_sync_265 : decode cX8_sync 265 = .ok (.iadd, 1) := by decide +kernel
theorem dX8_sync_266 : decode cX8_sync 266 = .ok (.iload 5, 2) := by decide +kernel
theorem dX8_sync_268 : decode cX8_sync 268 = .ok (.isub, 1) := by decide +kernel
theorem dX8_sync_269 : decode cX8_sync 269 = .ok (.aload_n 0, 1) := by decide +kernel
theorem dX8_sync_270 : decode cX8_sync 270 = .ok (.getfield 43, 3) := by decide +kernel
theorem dX8_sync_273 : decode cX8_sync 273 = .ok (.bipush 8, 2) := by decide +kernel
theorem dX8_sync_275 : decode cX8_sync 275 = .ok (.iload_n 2, 1) := by decide +kernel
theorem dX8_sync_276 : decode cX8_sync 276 = .ok (.imul, 1) := by decide +kernel
theorem dX8_sync_277 : decode cX8_sync 277 = .ok (.iload 6, 2) := by decide +kernel
theorem dX8_sync_279 : decode cX8_sync 279 = .ok (.iadd, 1) := by decide +kernel
theorem dX8_sync_280 : decode cX8_sync 280 = .ok (.iaload, 1) := by decide +kernel
theorem dX8_sync_281 : decode cX8_sync 281 = .ok (.iastore, 1) := by decide +kernel
theorem dX8_sync_282 : decode cX8_sync 282 = .ok (.iinc 6 1, 3) := by decide +kernel
theorem dX8_sync_285 : decode cX8_sync 285 = .ok (.goto (-68), 3) := by decide +kernel
theorem dX8_sync_288 : decode cX8_sync 288 = .ok (.aload_n 0, 1) := by decide +kernel
theorem dX8_sync_289 : decode cX8_sync 289 = .ok (.getfield 37, 3) := by decide +kernel
theorem dX8_sync_292 : decode cX8_sync 292 = .ok (.iload_n 2, 1) := by decide +kernel
theorem dX8_sync_293 : decode cX8_sync 293 = .ok (.dup2, 1) := by decide +kernel
theorem dX8_sync_294 : decode cX8_sync 294 = .ok (.iaload, 1) := by decide +kernel
theorem dX8_sync_295 : decode cX8_sync 295 = .ok (.iload 5, 2) := by decide +kernel
theorem dX8_sync_297 : decode cX8_sync 297 = .ok (.isub, 1) := by decide +kernel
theorem dX8_sync_298 : decode cX8_sync 298 = .ok (.iastore, 1) := by decide +kernel
theorem dX8_sync_299 : decode cX8_sync 299 = .ok (.aload_n 0, 1) := by decide +kernel
theorem dX8_sync_300 : decode cX8_sync 300 = .ok (.iload_n 2, 1) := by decide +kernel
theorem dX8_sync_301 : decode cX8_sync 301 = .ok (.aload_n 0, 1) := by decide +kernel
theorem dX8_sync_302 : decode cX8_sync 302 = .ok (.getfield 34, 3) := by decide +kernel
theorem dX8_sync_305 : decode cX8_sync 305 = .ok (.iload_n 2, 1) := by decide +kernel
theorem dX8_sync_306 : decode cX8_sync 306 = .ok (.iaload, 1) := by decide +kernel
theorem dX8_sync_307 : decode cX8_sync 307 = .ok (.aload_n 0, 1) := by decide +kernel
theorem dX8_sync_308 : decode cX8_sync 308 = .ok (.getfield 34, 3) := by decide +kernel
theorem dX8_sync_311 : decode cX8_sync 311 = .ok (.iload_n 1, 1) := by decide +kernel
theorem dX8_sync_312 : decode cX8_sync 312 = .ok (.iaload, 1) := by decide +kernel
theorem dX8_sync_313 : decode cX8_sync 313 = .ok (.lload_n 3, 1) := by decide +kernel
theorem dX8_sync_314 : decode cX8_sync 314 = .ok (.invokevirtual 207, 3) := by decide +kernel
theorem dX8_sync_317 : decode cX8_sync 317 = .ok (.istore 6, 2) := by decide +kernel
theorem dX8_sync_319 : decode cX8_sync 319 = .ok (.aload_n 0, 1) := by decide +kernel
theorem dX8_sync_320 : decode cX8_sync 320 = .ok (.getfield 34, 3) := by decide +kernel
theorem dX8_sync_323 : decode cX8_sync 323 = .ok (.iload_n 2, 1) := by decide +kernel
theorem dX8_sync_324 : decode cX8_sync 324 = .ok (.iload 6, 2) := by decide +kernel
theorem dX8_sync_326 : decode cX8_sync 326 = .ok (.iastore, 1) := by decide +kernel
theorem dX8_sync_327 : decode cX8_sync 327 = .ok (.aload_n 0, 1) := by decide +kernel
theorem dX8_sync_328 : decode cX8_sync 328 = .ok (.getfield 55, 3) := by decide +kernel
theorem dX8_sync_331 : decode cX8_sync 331 = .ok (.sipush 240, 3) := by decide +kernel
theorem dX8_sync_334 : decode cX8_sync 334 = .ok (.iload_n 2, 1) := by decide +kernel
theorem dX8_sync_335 : decode cX8_sync 335 = .ok (.imul, 1) := by decide +kernel
theorem dX8_sync_336 : decode cX8_sync 336 = .ok (.iload 6, 2) := by decide +kernel
theorem dX8_sync_338 : decode cX8_sync 338 = .ok (.iadd, 1) := by decide +kernel
theorem dX8_sync_339 : decode cX8_sync 339 = .ok (.iconst 1, 1) := by decide +kernel
theorem dX8_sync_340 : decode cX8_sync 340 = .ok (.bastore, 1) := by decide +kernel
theorem dX8_sync_341 : decode cX8_sync 341 = .ok (.iload 6, 2) := by decide +kernel
theorem dX8_sync_343 : decode cX8_sync 343 = .ok (.ireturn, 1) := by decide +kernel
theorem dX8_holds_0 : decode cX8_holds 0 = .ok (.aload_n 0, 1) := by decide +kernel
theorem dX8_holds_1 : decode cX8_holds 1 = .ok (.iload_n 2, 1) := by decide +kernel
theorem dX8_holds_2 : decode cX8_holds 2 = .ok (.invokevirtual 263, 3) := by decide +kernel
theorem dX8_holds_5 : decode cX8_holds 5 = .ok (.ifCond .eq 22, 3) := by decide +kernel
theorem dX8_holds_8 : decode cX8_holds 8 = .ok (.aload_n 0, 1) := by decide +kernel
theorem dX8_holds_9 : decode cX8_holds 9 = .ok (.getfield 55, 3) := by decide +kernel
theorem dX8_holds_12 : decode cX8_holds 12 = .ok (.sipush 240, 3) := by decide +kernel
theorem dX8_holds_15 : decode cX8_holds 15 = .ok (.iload_n 1, 1) := by decide +kernel
theorem dX8_holds_16 : decode cX8_holds 16 = .ok (.imul, 1) := by decide +kernel
theorem dX8_holds_17 : decode cX8_holds 17 = .ok (.iload_n 2, 1) := by decide +kernel
theorem dX8_holds_18 : decode cX8_holds 18 = .ok (.iadd, 1) := by decide +kernel
theorem dX8_holds_19 : decode cX8_holds 19 = .ok (.baload, 1) := by decide +kernel
theorem dX8_holds_20 : decode cX8_holds 20 = .ok (.ifCond .eq 7, 3) := by decide +kernel
theorem dX8_holds_23 : decode cX8_holds 23 = .ok (.iconst 1, 1) := by decide +kernel
theorem dX8_holds_24 : decode cX8_holds 24 = .ok (.goto 4, 3) := by decide +kernel
theorem dX8_holds_27 : decode cX8_holds 27 = .ok (.iconst 0, 1) := by decide +kernel
theorem dX8_holds_28 : decode cX8_holds 28 = .ok (.ireturn, 1) := by decide +kernel
theorem dX8_inject_0 : decode cX8_inject 0 = .ok (.aload_n 0, 1) := by decide +kernel
theorem dX8_inject_1 : decode cX8_inject 1 = .ok (.iconst 0, 1) := by decide +kernel
theorem dX8_inject_2 : decode cX8_inject 2 = .ok (.putfield 190, 3) := by decide +kernel
theorem dX8_inject_5 : decode cX8_inject 5 = .ok (.aload_n 0, 1) := by decide +kernel
theorem dX8_inject_6 : decode cX8_inject 6 = .ok (.aload_n 0, 1) := by decide +kernel
theorem dX8_inject_7 : decode cX8_inject 7 = .ok (.iload_n 1, 1) := by decide +kernel
theorem dX8_inject_8 : decode cX8_inject 8 = .ok (.invokevirtual 259, 3) := by decide +kernel
theorem dX8_inject_11 : decode cX8_inject 11 = .ok (.ifCond .eq 62, 3) := by decide +kernel
theorem dX8_inject_14 : decode cX8_inject 14 = .ok (.aload_n 0, 1) := by decide +kernel
theorem dX8_inject_15 : decode cX8_inject 15 = .ok (.iload_n 2, 1) := by decide +kernel
theorem dX8_inject_16 : decode cX8_inject 16 = .ok (.invokevirtual 259, 3) := by decide +kernel
theorem dX8_inject_19 : decode cX8_inject 19 = .ok (.ifCond .eq 54, 3) := by decide +kernel
theorem dX8_inject_22 : decode cX8_inject 22 = .ok (.iload_n 1, 1) := by decide +kernel
theorem dX8_inject_23 : decode cX8_inject 23 = .ok (.iload_n 2, 1) := by decide +kernel
theorem dX8_inject_24 : decode cX8_inject 24 = .ok (.if_icmp .eq 49, 3) := by decide +kernel
theorem dX8_inject_27 : decode cX8_inject 27 = .ok (.aload_n 0, 1) := by decide +kernel
theorem dX8_inject_28 : decode cX8_inject 28 = .ok (.iload_n 1, 1) := by decide +kernel
theorem dX8_inject_29 : decode cX8_inject 29 = .ok (.iload_n 3, 1) := by decide +kernel
theorem dX8_inject_30 : decode cX8_inject 30 = .ok (.invokevirtual 266, 3) := by decide +kernel
theorem dX8_inject_33 : decode cX8_inject 33 = .ok (.ifCond .eq 40, 3) := by decide +kernel
theorem dX8_inject_36 : decode cX8_inject 36 = .ok (.aload_n 0, 1) := by decide +kernel
theorem dX8_inject_37 : decode cX8_inject 37 = .ok (.getfield 9, 3) := by decide +kernel
theorem dX8_inject_40 : decode cX8_inject 40 = .ok (.iload_n 3, 1) := by decide +kernel
theorem dX8_inject_41 : decode cX8_inject 41 = .ok (.iaload, 1) := by decide +kernel
theorem dX8_inject_42 : decode cX8_inject 42 = .ok (.iload_n 2, 1) := by decide +kernel
theorem dX8_inject_43 : decode cX8_inject 43 = .ok (.if_icmp .ne 30, 3) := by decide +kernel
theorem dX8_inject_46 : decode cX8_inject 46 = .ok (.iload 4, 2) := by decide +kernel
theorem dX8_inject_48 : decode cX8_inject 48 = .ok (.iconst (-1), 1) := by decide +kernel
theorem dX8_inject_49 : decode cX8_inject 49 = .ok (.if_icmp .eq 28, 3) := by decide +kernel
theorem dX8_inject_52 : decode cX8_inject 52 = .ok (.aload_n 0, 1) := by decide +kernel
theorem dX8_inject_53 : decode cX8_inject 53 = .ok (.iload_n 1, 1) := by decide +kernel
theorem dX8_inject_54 : decode cX8_inject 54 = .ok (.iload 4, 2) := by decide +kernel
theorem dX8_inject_56 : decode cX8_inject 56 = .ok (.invokevirtual 266, 3) := by decide +kernel
theorem dX8_inject_59 : decode cX8_inject 59 = .ok (.ifCond .eq 14, 3) := by decide +kernel
theorem dX8_inject_62 : decode cX8_inject 62 = .ok (.aload_n 0, 1) := by decide +kernel
theorem dX8_inject_63 : decode cX8_inject 63 = .ok (.getfield 9, 3) := by decide +kernel
theorem dX8_inject_66 : decode cX8_inject 66 = .ok (.iload 4, 2) := by decide +kernel
theorem dX8_inject_68 : decode cX8_inject 68 = .ok (.iaload, 1) := by decide +kernel
theorem dX8_inject_69 : decode cX8_inject 69 = .ok (.iload_n 2, 1) := by decide +kernel
theorem dX8_inject_70 : decode cX8_inject 70 = .ok (.if_icmp .ne 7, 3) := by decide +kernel
theorem dX8_inject_73 : decode cX8_inject 73 = .ok (.iconst 1, 1) := by decide +kernel
theorem dX8_inject_74 : decode cX8_inject 74 = .ok (.goto 4, 3) := by decide +kernel
theorem dX8_inject_77 : decode cX8_inject 77 = .ok (.iconst 0, 1) := by decide +kernel
theorem dX8_inject_78 : decode cX8_inject 78 = .ok (.iconst 1, 1) := by decide +kernel
theorem dX8_inject_79 : decode cX8_inject 79 = .ok (.invokevirtual 203, 3) := by decide +kernel
theorem dX8_inject_82 : decode cX8_inject 82 = .ok (.ifCond .eq 5, 3) := by decide +kernel
theorem dX8_inject_85 : decode cX8_inject 85 = .ok (.iconst 0, 1) := by decide +kernel
theorem dX8_inject_86 : decode cX8_inject 86 = .ok (.ireturn, 1) := by decide +kernel
theorem dX8_inject_87 : decode cX8_inject 87 = .ok (.iconst 0, 1) := by decide +kernel
theorem dX8_inject_88 : decode cX8_inject 88 = .ok (.istore 7, 2) := by decide +kernel
theorem dX8_inject_90 : decode cX8_inject 90 = .ok (.iload 7, 2) := by decide +kernel
theorem dX8_inject_92 : decode cX8_inject 92 = .ok (.aload_n 0, 1) := by decide +kernel
theorem dX8_inject_93 : decode cX8_inject 93 = .ok (.getfield 200, 3) := by decide +kernel
theorem dX8_inject_96 : decode cX8_inject 96 = .ok (.if_icmp .ge 81, 3) := by decide +kernel
theorem dX8_inject_99 : decode cX8_inject 99 = .ok (.aload_n 0, 1) := by decide +kernel
theorem dX8_inject_100 : decode cX8_inject 100 = .ok (.aload_n 0, 1) := by decide +kernel
theorem dX8_inject_101 : decode cX8_inject 101 = .ok (.getfield 9, 3) := by decide +kernel
theorem dX8_inject_104 : decode cX8_inject 104 = .ok (.iload 7, 2) := by decide +kernel
theorem dX8_inject_106 : decode cX8_inject 106 = .ok (.iaload, 1) := by decide +kernel
theorem dX8_inject_107 : decode cX8_inject 107 = .ok (.iload_n 2, 1) := by decide +kernel
theorem dX8_inject_108 : decode cX8_inject 108 = .ok (.if_icmp .ne 53, 3) := by decide +kernel
theorem dX8_inject_111 : decode cX8_inject 111 = .ok (.aload_n 0, 1) := by decide +kernel
theorem dX8_inject_112 : decode cX8_inject 112 = .ok (.getfield 13, 3) := by decide +kernel
theorem dX8_inject_115 : decode cX8_inject 115 = .ok (.iload 7, 2) := by decide +kernel
theorem dX8_inject_117 : decode cX8_inject 117 = .ok (.iaload, 1) := by decide +kernel
theorem dX8_inject_118 : decode cX8_inject 118 = .ok (.iload_n 3, 1) := by decide +kernel
theorem dX8_inject_119 : decode cX8_inject 119 = .ok (.if_icmp .ne 42, 3) := by decide +kernel
theorem dX8_inject_122 : decode cX8_inject 122 = .ok (.aload_n 0, 1) := by decide +kernel
theorem dX8_inject_123 : decode cX8_inject 123 = .ok (.getfield 16, 3) := by decide +kernel
theorem dX8_inject_126 : decode cX8_inject 126 = .ok (.iload 7, 2) := by decide +kernel
theorem dX8_inject_128 : decode cX8_inject 128 = .ok (.iaload, 1) := by decide +kernel
theorem dX8_inject_129 : decode cX8_inject 129 = .ok (.iload 4, 2) := by decide +kernel
theorem dX8_inject_131 : decode cX8_inject 131 = .ok (.if_icmp .ne 30, 3) := by decide +kernel
theorem dX8_inject_134 : decode cX8_inject 134 = .ok (.aload_n 0, 1) := by decide +kernel
theorem dX8_inject_135 : decode cX8_inject 135 = .ok (.getfield 46, 3) := by decide +kernel
theorem dX8_inject_138 : decode cX8_inject 138 = .ok (.iload 7, 2) := by decide +kernel
theorem dX8_inject_140 : decode cX8_inject 140 = .ok (.laload, 1) := by decide +kernel
theorem dX8_inject_141 : decode cX8_inject 141 = .ok (.lload 5, 2) := by decide +kernel
theorem dX8_inject_143 : decode cX8_inject 143 = .ok (.lcmp, 1) := by decide +kernel
theorem dX8_inject_144 : decode cX8_inject 144 = .ok (.ifCond .ne 17, 3) := by decide +kernel
theorem dX8_inject_147 : decode cX8_inject 147 = .ok (.aload_n 0, 1) := by decide +kernel
theorem dX8_inject_148 : decode cX8_inject 148 = .ok (.getfield 19, 3) := by decide +kernel
theorem dX8_inject_151 : decode cX8_inject 151 = .ok (.iload 7, 2) := by decide +kernel
theorem dX8_inject_153 : decode cX8_inject 153 = .ok (.iaload, 1) := by decide +kernel
theorem dX8_inject_154 : decode cX8_inject 154 = .ok (.ifCond .ne 7, 3) := by decide +kernel
theorem dX8_inject_157 : decode cX8_inject 157 = .ok (.iconst 1, 1) := by decide +kernel
theorem dX8_inject_158 : decode cX8_inject 158 = .ok (.goto 4, 3) := by decide +kernel
theorem dX8_inject_161 : decode cX8_inject 161 = .ok (.iconst 0, 1) := by decide +kernel
theorem dX8_inject_162 : decode cX8_inject 162 = .ok (.iconst 2, 1) := by decide +kernel
theorem dX8_inject_163 : decode cX8_inject 163 = .ok (.invokevirtual 203, 3) := by decide +kernel
theorem dX8_inject_166 : decode cX8_inject 166 = .ok (.ifCond .eq 5, 3) := by decide +kernel
theorem dX8_inject_169 : decode cX8_inject 169 = .ok (.iconst 0, 1) := by decide +kernel
theorem dX8_inject_170 : decode cX8_inject 170 = .ok (.ireturn, 1) := by decide +kernel
theorem dX8_inject_171 : decode cX8_inject 171 = .ok (.iinc 7 1, 3) := by decide +kernel
theorem dX8_inject_174 : decode cX8_inject 174 = .ok (.goto (-84), 3) := by decide +kernel
theorem dX8_inject_177 : decode cX8_inject 177 = .ok (.aload_n 0, 1) := by decide +kernel
theorem dX8_inject_178 : decode cX8_inject 178 = .ok (.aload_n 0, 1) := by decide +kernel
theorem dX8_inject_179 : decode cX8_inject 179 = .ok (.getfield 200, 3) := by decide +kernel
theorem dX8_inject_182 : decode cX8_inject 182 = .ok (.sipush 240, 3) := by decide +kernel
theorem dX8_inject_185 : decode cX8_inject 185 = .ok (.if_icmp .ne 7, 3) := by decide +kernel
theorem dX8_inject_188 : decode cX8_inject 188 = .ok (.iconst 1, 1) := by decide +kernel
theorem dX8_inject_189 : decode cX8_inject 189 = .ok (.goto 4, 3) := by decide +kernel
theorem dX8_inject_192 : decode cX8_inject 192 = .ok (.iconst 0, 1) := by decide +kernel
theorem dX8_inject_193 : decode cX8_inject 193 = .ok (.iconst 3, 1) := by decide +kernel
theorem dX8_inject_194 : decode cX8_inject 194 = .ok (.invokevirtual 203, 3) := by decide +kernel
theorem dX8_inject_197 : decode cX8_inject 197 = .ok (.ifCond .eq 5, 3) := by decide +kernel
theorem dX8_inject_200 : decode cX8_inject 200 = .ok (.iconst 0, 1) := by decide +kernel
theorem dX8_inject_201 : decode cX8_inject 201 = .ok (.ireturn, 1) := by decide +kernel
theorem dX8_inject_202 : decode cX8_inject 202 = .ok (.aload_n 0, 1) := by decide +kernel
theorem dX8_inject_203 : decode cX8_inject 203 = .ok (.getfield 19, 3) := by decide +kernel
theorem dX8_inject_206 : decode cX8_inject 206 = .ok (.aload_n 0, 1) := by decide +kernel
theorem dX8_inject_207 : decode cX8_inject 207 = .ok (.getfield 200, 3) := by decide +kernel
theorem dX8_inject_210 : decode cX8_inject 210 = .ok (.iconst 0, 1) := by decide +kernel
theorem dX8_inject_211 : decode cX8_inject 211 = .ok (.iastore, 1) := by decide +kernel
theorem dX8_inject_212 : decode cX8_inject 212 = .ok (.aload_n 0, 1) := by decide +kernel
theorem dX8_inject_213 : decode cX8_inject 213 = .ok (.iload_n 2, 1) := by decide +kernel
theorem dX8_inject_214 : decode cX8_inject 214 = .ok (.iload_n 3, 1) := by decide +kernel
theorem dX8_inject_215 : decode cX8_inject 215 = .ok (.iload 4, 2) := by decide +kernel
theorem dX8_inject_217 : decode cX8_inject 217 = .ok (.lload 5, 2) := by decide +kernel
theorem dX8_inject_219 : decode cX8_inject 219 = .ok (.invokevirtual 207, 3) := by decide +kernel
theorem dX8_inject_222 : decode cX8_inject 222 = .ok (.istore 7, 2) := by decide +kernel
theorem dX8_inject_224 : decode cX8_inject 224 = .ok (.aload_n 0, 1) := by decide +kernel
theorem dX8_inject_225 : decode cX8_inject 225 = .ok (.getfield 55, 3) := by decide +kernel
theorem dX8_inject_228 : decode cX8_inject 228 = .ok (.sipush 240, 3) := by decide +kernel
theorem dX8_inject_231 : decode cX8_inject 231 = .ok (.iload_n 1, 1) := by decide +kernel
theorem dX8_inject_232 : decode cX8_inject 232 = .ok (.imul, 1) := by decide +kernel
theorem dX8_inject_233 : decode cX8_inject 233 = .ok (.iload 7, 2) := by decide +kernel
theorem dX8_inject_235 : decode cX8_inject 235 = .ok (.iadd, 1) := by decide +kernel
theorem dX8_inject_236 : decode cX8_inject 236 = .ok (.iconst 1, 1) := by decide +kernel
theorem dX8_inject_237 : decode cX8_inject 237 = .ok (.bastore, 1) := by decide +kernel
theorem dX8_inject_238 : decode cX8_inject 238 = .ok (.iload 7, 2) := by decide +kernel
theorem dX8_inject_240 : decode cX8_inject 240 = .ok (.ireturn, 1) := by decide +kernel
theorem dX8_event_0 : decode cX8_event 0 = .ok (.aload_n 0, 1) := by decide +kernel
theorem dX8_event_1 : decode cX8_event 1 = .ok (.iconst 0, 1) := by decide +kernel
theorem dX8_event_2 : decode cX8_event 2 = .ok (.putfield 190, 3) := by decide +kernel
theorem dX8_event_5 : decode cX8_event 5 = .ok (.aload_n 0, 1) := by decide +kernel
theorem dX8_event_6 : decode cX8_event 6 = .ok (.iload_n 2, 1) := by decide +kernel
theorem dX8_event_7 : decode cX8_event 7 = .ok (.iconst 0, 1) := by decide +kernel
theorem dX8_event_8 : decode cX8_event 8 = .ok (.bipush 7, 2) := by decide +kernel
theorem dX8_event_10 : decode cX8_event 10 = .ok (.invokestatic 196, 3) := by decide +kernel
theorem dX8_event_13 : decode cX8_event 13 = .ok (.ifCond .ne 7, 3) := by decide +kernel
theorem dX8_event_16 : decode cX8_event 16 = .ok (.iconst 1, 1) := by decide +kernel
theorem dX8_event_17 : decode cX8_event 17 = .ok (.goto 4, 3) := by decide +kernel
theorem dX8_event_20 : decode cX8_event 20 = .ok (.iconst 0, 1) := by decide +kernel
theorem dX8_event_21 : decode cX8_event 21 = .ok (.iconst 1, 1) := by decide +kernel
theorem dX8_event_22 : decode cX8_event 22 = .ok (.invokevirtual 203, 3) := by decide +kernel
theorem dX8_event_25 : decode cX8_event 25 = .ok (.ifCond .ne 24, 3) := by decide +kernel
theorem dX8_event_28 : decode cX8_event 28 = .ok (.aload_n 0, 1) := by decide +kernel
theorem dX8_event_29 : decode cX8_event 29 = .ok (.aload_n 0, 1) := by decide +kernel
theorem dX8_event_30 : decode cX8_event 30 = .ok (.iload_n 1, 1) := by decide +kernel
theorem dX8_event_31 : decode cX8_event 31 = .ok (.invokevirtual 263, 3) := by decide +kernel
theorem dX8_event_34 : decode cX8_event 34 = .ok (.ifCond .ne 7, 3) := by decide +kernel
theorem dX8_event_37 : decode cX8_event 37 = .ok (.iconst 1, 1) := by decide +kernel
theorem dX8_event_38 : decode cX8_event 38 = .ok (.goto 4, 3) := by decide +kernel
theorem dX8_event_41 : decode cX8_event 41 = .ok (.iconst 0, 1) := by decide +kernel
theorem dX8_event_42 : decode cX8_event 42 = .ok (.iconst 2, 1) := by decide +kernel
theorem dX8_event_43 : decode cX8_event 43 = .ok (.invokevirtual 203, 3) := by decide +kernel
theorem dX8_event_46 : decode cX8_event 46 = .ok (.ifCond .eq 5, 3) := by decide +kernel
theorem dX8_event_49 : decode cX8_event 49 = .ok (.iconst 0, 1) := by decide +kernel
theorem dX8_event_50 : decode cX8_event 50 = .ok (.ireturn, 1) := by decide +kernel
theorem dX8_event_51 : decode cX8_event 51 = .ok (.iconst 0, 1) := by decide +kernel
theorem dX8_event_52 : decode cX8_event 52 = .ok (.istore_n 3, 1) := by decide +kernel
theorem dX8_event_53 : decode cX8_event 53 = .ok (.iload_n 2, 1) := by decide +kernel
theorem dX8_event_54 : decode cX8_event 54 = .ok (.tableswitch 131 0 6 #[42, 49, 56, 63, 70, 85, 92], 42) := by decide +kernel
theorem dX8_event_96 : decode cX8_event 96 = .ok (.aload_n 0, 1) := by decide +kernel
theorem dX8_event_97 : decode cX8_event 97 = .ok (.getfield 9, 3) := by decide +kernel
theorem dX8_event_100 : decode cX8_event 100 = .ok (.iload_n 1, 1) := by decide +kernel
theorem dX8_event_101 : decode cX8_event 101 = .ok (.iaload, 1) := by decide +kernel
theorem dX8_event_102 : decode cX8_event 102 = .ok (.ireturn, 1) := by decide +kernel
theorem dX8_event_103 : decode cX8_event 103 = .ok (.aload_n 0, 1) := by decide +kernel
theorem dX8_event_104 : decode cX8_event 104 = .ok (.getfield 13, 3) := by decide +kernel
theorem dX8_event_107 : decode cX8_event 107 = .ok (.iload_n 1, 1) := by decide +kernel
theorem dX8_event_108 : decode cX8_event 108 = .ok (.iaload, 1) := by decide +kernel
theorem dX8_event_109 : decode cX8_event 109 = .ok (.ireturn, 1) := by decide +kernel
theorem dX8_event_110 : decode cX8_event 110 = .ok (.aload_n 0, 1) := by decide +kernel
theorem dX8_event_111 : decode cX8_event 111 = .ok (.getfield 16, 3) := by decide +kernel
theorem dX8_event_114 : decode cX8_event 114 = .ok (.iload_n 1, 1) := by decide +kernel
theorem dX8_event_115 : decode cX8_event 115 = .ok (.iaload, 1) := by decide +kernel
theorem dX8_event_116 : decode cX8_event 116 = .ok (.ireturn, 1) := by decide +kernel
theorem dX8_event_117 : decode cX8_event 117 = .ok (.aload_n 0, 1) := by decide +kernel
theorem dX8_event_118 : decode cX8_event 118 = .ok (.getfield 28, 3) := by decide +kernel
theorem dX8_event_121 : decode cX8_event 121 = .ok (.iload_n 1, 1) := by decide +kernel
theorem dX8_event_122 : decode cX8_event 122 = .ok (.iaload, 1) := by decide +kernel
theorem dX8_event_123 : decode cX8_event 123 = .ok (.ireturn, 1) := by decide +kernel
theorem dX8_event_124 : decode cX8_event 124 = .ok (.aload_n 0, 1) := by decide +kernel
theorem dX8_event_125 : decode cX8_event 125 = .ok (.getfield 61, 3) := by decide +kernel
theorem dX8_event_128 : decode cX8_event 128 = .ok (.iload_n 1, 1) := by decide +kernel
theorem dX8_event_129 : decode cX8_event 129 = .ok (.baload, 1) := by decide +kernel
theorem dX8_event_130 : decode cX8_event 130 = .ok (.ifCond .eq 7, 3) := by decide +kernel
theorem dX8_event_133 : decode cX8_event 133 = .ok (.iconst 1, 1) := by decide +kernel
theorem dX8_event_134 : decode cX8_event 134 = .ok (.goto 4, 3) := by decide +kernel
theorem dX8_event_137 : decode cX8_event 137 = .ok (.iconst 0, 1) := by decide +kernel
theorem dX8_event_138 : decode cX8_event 138 = .ok (.ireturn, 1) := by decide +kernel
theorem dX8_event_139 : decode cX8_event 139 = .ok (.aload_n 0, 1) := by decide +kernel
theorem dX8_event_140 : decode cX8_event 140 = .ok (.getfield 19, 3) := by decide +kernel
theorem dX8_event_143 : decode cX8_event 143 = .ok (.iload_n 1, 1) := by decide +kernel
theorem dX8_event_144 : decode cX8_event 144 = .ok (.iaload, 1) := by decide +kernel
theorem dX8_event_145 : decode cX8_event 145 = .ok (.ireturn, 1) := by decide +kernel
theorem dX8_event_146 : decode cX8_event 146 = .ok (.iconst 0, 1) := by decide +kernel
theorem dX8_event_147 : decode cX8_event 147 = .ok (.istore 4, 2) := by decide +kernel
theorem dX8_event_149 : decode cX8_event 149 = .ok (.iload 4, 2) := by decide +kernel
theorem dX8_event_151 : decode cX8_event 151 = .ok (.aload_n 0, 1) := by decide +kernel
theorem dX8_event_152 : decode cX8_event 152 = .ok (.getfield 193, 3) := by decide +kernel
theorem dX8_event_155 : decode cX8_event 155 = .ok (.if_icmp .ge 28, 3) := by decide +kernel
theorem dX8_event_158 : decode cX8_event 158 = .ok (.aload_n 0, 1) := by decide +kernel
theorem dX8_event_159 : decode cX8_event 159 = .ok (.getfield 55, 3) := by decide +kernel
theorem dX8_event_162 : decode cX8_event 162 = .ok (.sipush 240, 3) := by decide +kernel
theorem dX8_event_165 : decode cX8_event 165 = .ok (.iload 4, 2) := by decide +kernel
theorem dX8_event_167 : decode cX8_event 167 = .ok (.imul, 1) := by decide +kernel
theorem dX8_event_168 : decode cX8_event 168 = .ok (.iload_n 1, 1) := by decide +kernel
theorem dX8_event_169 : decode cX8_event 169 = .ok (.iadd, 1) := by decide +kernel
theorem dX8_event_170 : decode cX8_event 170 = .ok (.baload, 1) := by decide +kernel
theorem dX8_event_171 : decode cX8_event 171 = .ok (.ifCond .eq 6, 3) := by decide +kernel
theorem dX8_event_174 : decode cX8_event 174 = .ok (.iinc 3 1, 3) := by decide +kernel
theorem dX8_event_177 : decode cX8_event 177 = .ok (.iinc 4 1, 3) := by decide +kernel
theorem dX8_event_180 : decode cX8_event 180 = .ok (.goto (-31), 3) := by decide +kernel
theorem dX8_event_183 : decode cX8_event 183 = .ok (.iload_n 3, 1) := by decide +kernel
theorem dX8_event_184 : decode cX8_event 184 = .ok (.ireturn, 1) := by decide +kernel
theorem dX8_event_185 : decode cX8_event 185 = .ok (.iconst 0, 1) := by decide +kernel
theorem dX8_event_186 : decode cX8_event 186 = .ok (.istore 4, 2) := by decide +kernel
theorem dX8_event_188 : decode cX8_event 188 = .ok (.iload 4, 2) := by decide +kernel
theorem dX8_event_190 : decode cX8_event 190 = .ok (.iload_n 1, 1) := by decide +kernel
theorem dX8_event_191 : decode cX8_event 191 = .ok (.if_icmp .gt 28, 3) := by decide +kernel
theorem dX8_event_194 : decode cX8_event 194 = .ok (.aload_n 0, 1) := by decide +kernel
theorem dX8_event_195 : decode cX8_event 195 = .ok (.getfield 51, 3) := by decide +kernel
theorem dX8_event_198 : decode cX8_event 198 = .ok (.sipush 240, 3) := by decide +kernel
theorem dX8_event_201 : decode cX8_event 201 = .ok (.iload_n 1, 1) := by decide +kernel
theorem dX8_event_202 : decode cX8_event 202 = .ok (.imul, 1) := by decide +kernel
theorem dX8_event_203 : decode cX8_event 203 = .ok (.iload 4, 2) := by decide +kernel
theorem dX8_event_205 : decode cX8_event 205 = .ok (.iadd, 1) := by decide +kernel
theorem dX8_event_206 : decode cX8_event 206 = .ok (.baload, 1) := by decide +kernel
theorem dX8_event_207 : decode cX8_event 207 = .ok (.ifCond .eq 6, 3) := by decide +kernel
theorem dX8_event_210 : decode cX8_event 210 = .ok (.iinc 3 1, 3) := by decide +kernel
theorem dX8_event_213 : decode cX8_event 213 = .ok (.iinc 4 1, 3) := by decide +kernel
theorem dX8_event_216 : decode cX8_event 216 = .ok (.goto (-28), 3) := by decide +kernel
theorem dX8_event_219 : decode cX8_event 219 = .ok (.iload_n 3, 1) := by decide +kernel
theorem dX8_event_220 : decode cX8_event 220 = .ok (.ireturn, 1) := by decide +kernel
theorem dX8_hash__0 : decode cX8_hash_ 0 = .ok (.aload_n 0, 1) := by decide +kernel
theorem dX8_hash__1 : decode cX8_hash_ 1 = .ok (.iconst 0, 1) := by decide +kernel
theorem dX8_hash__2 : decode cX8_hash_ 2 = .ok (.putfield 190, 3) := by decide +kernel
theorem dX8_hash__5 : decode cX8_hash_ 5 = .ok (.aload_n 0, 1) := by decide +kernel
theorem dX8_hash__6 : decode cX8_hash_ 6 = .ok (.aload_n 0, 1) := by decide +kernel
theorem dX8_hash__7 : decode cX8_hash_ 7 = .ok (.iload_n 1, 1) := by decide +kernel
theorem dX8_hash__8 : decode cX8_hash_ 8 = .ok (.invokevirtual 263, 3) := by decide +kernel
theorem dX8_hash__11 : decode cX8_hash_ 11 = .ok (.ifCond .eq 13, 3) := by decide +kernel
theorem dX8_hash__14 : decode cX8_hash_ 14 = .ok (.iload_n 2, 1) := by decide +kernel
theorem dX8_hash__15 : decode cX8_hash_ 15 = .ok (.iconst 0, 1) := by decide +kernel
theorem dX8_hash__16 : decode cX8_hash_ 16 = .ok (.bipush 7, 2) := by decide +kernel
theorem dX8_hash__18 : decode cX8_hash_ 18 = .ok (.invokestatic 196, 3) := by decide +kernel
theorem dX8_hash__21 : decode cX8_hash_ 21 = .ok (.ifCond .ne 7, 3) := by decide +kernel
theorem dX8_hash__24 : decode cX8_hash_ 24 = .ok (.iconst 1, 1) := by decide +kernel
theorem dX8_hash__25 : decode cX8_hash_ 25 = .ok (.goto 4, 3) := by decide +kernel
theorem dX8_hash__28 : decode cX8_hash_ 28 = .ok (.iconst 0, 1) := by decide +kernel
theorem dX8_hash__29 : decode cX8_hash_ 29 = .ok (.iconst 1, 1) := by decide +kernel
theorem dX8_hash__30 : decode cX8_hash_ 30 = .ok (.invokevirtual 203, 3) := by decide +kernel
theorem dX8_hash__33 : decode cX8_hash_ 33 = .ok (.ifCond .eq 7, 3) := by decide +kernel
theorem dX8_hash__36 : decode cX8_hash_ 36 = .ok (.iconst 0, 1) := by decide +kernel
theorem dX8_hash__37 : decode cX8_hash_ 37 = .ok (.goto 14, 3) := by decide +kernel
theorem dX8_hash__40 : decode cX8_hash_ 40 = .ok (.aload_n 0, 1) := by decide +kernel
theorem dX8_hash__41 : decode cX8_hash_ 41 = .ok (.getfield 31, 3) := by decide +kernel
theorem dX8_hash__44 : decode cX8_hash_ 44 = .ok (.bipush 8, 2) := by decide +kernel
theorem dX8_hash__46 : decode cX8_hash_ 46 = .ok (.iload_n 1, 1) := by decide +kernel
theorem dX8_hash__47 : decode cX8_hash_ 47 = .ok (.imul, 1) := by decide +kernel
theorem dX8_hash__48 : decode cX8_hash_ 48 = .ok (.iload_n 2, 1) := by decide +kernel
theorem dX8_hash__49 : decode cX8_hash_ 49 = .ok (.iadd, 1) := by decide +kernel
theorem dX8_hash__50 : decode cX8_hash_ 50 = .ok (.iaload, 1) := by decide +kernel
theorem dX8_hash__51 : decode cX8_hash_ 51 = .ok (.ireturn, 1) := by decide +kernel
theorem dX8_sees__0 : decode cX8_sees_ 0 = .ok (.aload_n 0, 1) := by decide +kernel
theorem dX8_sees__1 : decode cX8_sees_ 1 = .ok (.iconst 0, 1) := by decide +kernel
theorem dX8_sees__2 : decode cX8_sees_ 2 = .ok (.putfield 190, 3) := by decide +kernel
theorem dX8_sees__5 : decode cX8_sees_ 5 = .ok (.aload_n 0, 1) := by decide +kernel
theorem dX8_sees__6 : decode cX8_sees_ 6 = .ok (.aload_n 0, 1) := by decide +kernel
theorem dX8_sees__7 : decode cX8_sees_ 7 = .ok (.iload_n 1, 1) := by decide +kernel
theorem dX8_sees__8 : decode cX8_sees_ 8 = .ok (.invokevirtual 263, 3) := by decide +kernel
theorem dX8_sees__11 : decode cX8_sees_ 11 = .ok (.ifCond .eq 11, 3) := by decide +kernel
theorem dX8_sees__14 : decode cX8_sees_ 14 = .ok (.aload_n 0, 1) := by decide +kernel
theorem dX8_sees__15 : decode cX8_sees_ 15 = .ok (.iload_n 2, 1) := by decide +kernel
theorem dX8_sees__16 : decode cX8_sees_ 16 = .ok (.invokevirtual 263, 3) := by decide +kernel
theorem dX8_sees__19 : decode cX8_sees_ 19 = .ok (.ifCond .ne 7, 3) := by decide +kernel
theorem dX8_sees__22 : decode cX8_sees_ 22 = .ok (.iconst 1, 1) := by decide +kernel
theorem dX8_sees__23 : decode cX8_sees_ 23 = .ok (.goto 4, 3) := by decide +kernel
theorem dX8_sees__26 : decode cX8_sees_ 26 = .ok (.iconst 0, 1) := by decide +kernel
theorem dX8_sees__27 : decode cX8_sees_ 27 = .ok (.iconst 1, 1) := by decide +kernel
theorem dX8_sees__28 : decode cX8_sees_ 28 = .ok (.invokevirtual 203, 3) := by decide +kernel
theorem dX8_sees__31 : decode cX8_sees_ 31 = .ok (.ifCond .eq 5, 3) := by decide +kernel
theorem dX8_sees__34 : decode cX8_sees_ 34 = .ok (.iconst 0, 1) := by decide +kernel
theorem dX8_sees__35 : decode cX8_sees_ 35 = .ok (.ireturn, 1) := by decide +kernel
theorem dX8_sees__36 : decode cX8_sees_ 36 = .ok (.iload_n 3, 1) := by decide +kernel
theorem dX8_sees__37 : decode cX8_sees_ 37 = .ok (.ifCond .eq 12, 3) := by decide +kernel
theorem dX8_sees__40 : decode cX8_sees_ 40 = .ok (.aload_n 0, 1) := by decide +kernel
theorem dX8_sees__41 : decode cX8_sees_ 41 = .ok (.iload_n 1, 1) := by decide +kernel
theorem dX8_sees__42 : decode cX8_sees_ 42 = .ok (.iload_n 2, 1) := by decide +kernel
theorem dX8_sees__43 : decode cX8_sees_ 43 = .ok (.invokevirtual 218, 3) := by decide +kernel
theorem dX8_sees__46 : decode cX8_sees_ 46 = .ok (.goto 9, 3) := by decide +kernel
theorem dX8_sees__49 : decode cX8_sees_ 49 = .ok (.aload_n 0, 1) := by decide +kernel
theorem dX8_sees__50 : decode cX8_sees_ 50 = .ok (.iload_n 1, 1) := by decide +kernel
theorem dX8_sees__51 : decode cX8_sees_ 51 = .ok (.iload_n 2, 1) := by decide +kernel
theorem dX8_sees__52 : decode cX8_sees_ 52 = .ok (.invokevirtual 237, 3) := by decide +kernel
theorem dX8_sees__55 : decode cX8_sees_ 55 = .ok (.ireturn, 1) := by decide +kernel
theorem dX8_vote_0 : decode cX8_vote 0 = .ok (.aload_n 0, 1) := by decide +kernel
theorem dX8_vote_1 : decode cX8_vote 1 = .ok (.iconst 0, 1) := by decide +kernel
theorem dX8_vote_2 : decode cX8_vote 2 = .ok (.putfield 190, 3) := by decide +kernel
theorem dX8_vote_5 : decode cX8_vote 5 = .ok (.aload_n 0, 1) := by decide +kernel
theorem dX8_vote_6 : decode cX8_vote 6 = .ok (.aload_n 0, 1) := by decide +kernel
theorem dX8_vote_7 : decode cX8_vote 7 = .ok (.iload_n 2, 1) := by decide +kernel
theorem dX8_vote_8 : decode cX8_vote 8 = .ok (.invokevirtual 263, 3) := by decide +kernel
theorem dX8_vote_11 : decode cX8_vote 11 = .ok (.ifCond .eq 11, 3) := by decide +kernel
theorem dX8_vote_14 : decode cX8_vote 14 = .ok (.aload_n 0, 1) := by decide +kernel
theorem dX8_vote_15 : decode cX8_vote 15 = .ok (.iload_n 1, 1) := by decide +kernel
theorem dX8_vote_16 : decode cX8_vote 16 = .ok (.invokevirtual 263, 3) := by decide +kernel
theorem dX8_vote_19 : decode cX8_vote 19 = .ok (.ifCond .ne 7, 3) := by decide +kernel
theorem dX8_vote_22 : decode cX8_vote 22 = .ok (.iconst 1, 1) := by decide +kernel
theorem dX8_vote_23 : decode cX8_vote 23 = .ok (.goto 4, 3) := by decide +kernel
theorem dX8_vote_26 : decode cX8_vote 26 = .ok (.iconst 0, 1) := by decide +kernel
theorem dX8_vote_27 : decode cX8_vote 27 = .ok (.iconst 1, 1) := by decide +kernel
theorem dX8_vote_28 : decode cX8_vote 28 = .ok (.invokevirtual 203, 3) := by decide +kernel
theorem dX8_vote_31 : decode cX8_vote 31 = .ok (.ifCond .ne 49, 3) := by decide +kernel
theorem dX8_vote_34 : decode cX8_vote 34 = .ok (.aload_n 0, 1) := by decide +kernel
theorem dX8_vote_35 : decode cX8_vote 35 = .ok (.aload_n 0, 1) := by decide +kernel
theorem dX8_vote_36 : decode cX8_vote 36 = .ok (.getfield 61, 3) := by decide +kernel
theorem dX8_vote_39 : decode cX8_vote 39 = .ok (.iload_n 2, 1) := by decide +kernel
theorem dX8_vote_40 : decode cX8_vote 40 = .ok (.baload, 1) := by decide +kernel
theorem dX8_vote_41 : decode cX8_vote 41 = .ok (.ifCond .eq 27, 3) := by decide +kernel
theorem dX8_vote_44 : decode cX8_vote 44 = .ok (.aload_n 0, 1) := by decide +kernel
theorem dX8_vote_45 : decode cX8_vote 45 = .ok (.getfield 61, 3) := by decide +kernel
theorem dX8_vote_48 : decode cX8_vote 48 = .ok (.iload_n 1, 1) := by decide +kernel
theorem dX8_vote_49 : decode cX8_vote 49 = .ok (.baload, 1) := by decide +kernel
theorem dX8_vote_50 : decode cX8_vote 50 = .ok (.ifCond .eq 18, 3) := by decide +kernel
theorem dX8_vote_53 : decode cX8_vote 53 = .ok (.aload_n 0, 1) := by decide +kernel
theorem dX8_vote_54 : decode cX8_vote 54 = .ok (.getfield 28, 3) := by decide +kernel
theorem dX8_vote_57 : decode cX8_vote 57 = .ok (.iload_n 1, 1) := by decide +kernel
theorem dX8_vote_58 : decode cX8_vote 58 = .ok (.iaload, 1) := by decide +kernel
theorem dX8_vote_59 : decode cX8_vote 59 = .ok (.aload_n 0, 1) := by decide +kernel
theorem dX8_vote_60 : decode cX8_vote 60 = .ok (.getfield 28, 3) := by decide +kernel
theorem dX8_vote_63 : decode cX8_vote 63 = .ok (.iload_n 2, 1) := by decide +kernel
theorem dX8_vote_64 : decode cX8_vote 64 = .ok (.iaload, 1) := by decide +kernel
theorem dX8_vote_65 : decode cX8_vote 65 = .ok (.if_icmp .gt 7, 3) := by decide +kernel
theorem dX8_vote_68 : decode cX8_vote 68 = .ok (.iconst 1, 1) := by decide +kernel
theorem dX8_vote_69 : decode cX8_vote 69 = .ok (.goto 4, 3) := by decide +kernel
theorem dX8_vote_72 : decode cX8_vote 72 = .ok (.iconst 0, 1) := by decide +kernel
theorem dX8_vote_73 : decode cX8_vote 73 = .ok (.iconst 2, 1) := by decide +kernel
theorem dX8_vote_74 : decode cX8_vote 74 = .ok (.invokevirtual 203, 3) := by decide +kernel
theorem dX8_vote_77 : decode cX8_vote 77 = .ok (.ifCond .eq 5, 3) := by decide +kernel
theorem dX8_vote_80 : decode cX8_vote 80 = .ok (.iconst 0, 1) := by decide +kernel
theorem dX8_vote_81 : decode cX8_vote 81 = .ok (.ireturn, 1) := by decide +kernel
theorem dX8_vote_82 : decode cX8_vote 82 = .ok (.aload_n 0, 1) := by decide +kernel
theorem dX8_vote_83 : decode cX8_vote 83 = .ok (.iload_n 1, 1) := by decide +kernel
theorem dX8_vote_84 : decode cX8_vote 84 = .ok (.iload_n 2, 1) := by decide +kernel
theorem dX8_vote_85 : decode cX8_vote 85 = .ok (.invokevirtual 240, 3) := by decide +kernel
theorem dX8_vote_88 : decode cX8_vote 88 = .ok (.ireturn, 1) := by decide +kernel
theorem dX8_find_0 : decode cX8_find 0 = .ok (.aload_n 0, 1) := by decide +kernel
theorem dX8_find_1 : decode cX8_find 1 = .ok (.getfield 71, 3) := by decide +kernel
theorem dX8_find_4 : decode cX8_find 4 = .ok (.iload_n 1, 1) := by decide +kernel
theorem dX8_find_5 : decode cX8_find 5 = .ok (.if_icmp .ne 4, 3) := by decide +kernel
theorem dX8_find_8 : decode cX8_find 8 = .ok (.return_, 1) := by decide +kernel
theorem dX8_find_9 : decode cX8_find 9 = .ok (.aload_n 0, 1) := by decide +kernel
theorem dX8_find_10 : decode cX8_find 10 = .ok (.iload_n 1, 1) := by decide +kernel
theorem dX8_find_11 : decode cX8_find 11 = .ok (.putfield 71, 3) := by decide +kernel
theorem dX8_find_14 : decode cX8_find 14 = .ok (.iconst 0, 1) := by decide +kernel
theorem dX8_find_15 : decode cX8_find 15 = .ok (.istore_n 2, 1) := by decide +kernel
theorem dX8_find_16 : decode cX8_find 16 = .ok (.sipush 240, 3) := by decide +kernel
theorem dX8_find_19 : decode cX8_find 19 = .ok (.iload_n 1, 1) := by decide +kernel
theorem dX8_find_20 : decode cX8_find 20 = .ok (.imul, 1) := by decide +kernel
theorem dX8_find_21 : decode cX8_find 21 = .ok (.istore_n 3, 1) := by decide +kernel
theorem dX8_find_22 : decode cX8_find 22 = .ok (.iconst 0, 1) := by decide +kernel
theorem dX8_find_23 : decode cX8_find 23 = .ok (.istore 4, 2) := by decide +kernel
theorem dX8_find_25 : decode cX8_find 25 = .ok (.iload 4, 2) := by decide +kernel
theorem dX8_find_27 : decode cX8_find 27 = .ok (.aload_n 0, 1) := by decide +kernel
theorem dX8_find_28 : decode cX8_find 28 = .ok (.getfield 200, 3) := by decide +kernel
theorem dX8_find_31 : decode cX8_find 31 = .ok (.if_icmp .ge 204, 3) := by decide +kernel
theorem dX8_find_34 : decode cX8_find 34 = .ok (.aload_n 0, 1) := by decide +kernel
theorem dX8_find_35 : decode cX8_find 35 = .ok (.getfield 75, 3) := by decide +kernel
theorem dX8_find_38 : decode cX8_find 38 = .ok (.iload 4, 2) := by decide +kernel
theorem dX8_find_40 : decode cX8_find 40 = .ok (.iconst 0, 1) := by decide +kernel
theorem dX8_find_41 : decode cX8_find 41 = .ok (.iastore, 1) := by decide +kernel
theorem dX8_find_42 : decode cX8_find 42 = .ok (.aload_n 0, 1) := by decide +kernel
theorem dX8_find_43 : decode cX8_find 43 = .ok (.getfield 78, 3) := by decide +kernel
theorem dX8_find_46 : decode cX8_find 46 = .ok (.iload 4, 2) := by decide +kernel
theorem dX8_find_48 : decode cX8_find 48 = .ok (.iconst 0, 1) := by decide +kernel
theorem dX8_find_49 : decode cX8_find 49 = .ok (.iastore, 1) := by decide +kernel
theorem dX8_find_50 : decode cX8_find 50 = .ok (.aload_n 0, 1) := by decide +kernel
theorem dX8_find_51 : decode cX8_find 51 = .ok (.getfield 81, 3) := by decide +kernel
theorem dX8_find_54 : decode cX8_find 54 = .ok (.iload 4, 2) := by decide +kernel
theorem dX8_find_56 : decode cX8_find 56 = .ok (.iconst (-1), 1) := by decide +kernel
theorem dX8_find_57 : decode cX8_find 57 = .ok (.iastore, 1) := by decide +kernel
theorem dX8_find_58 : decode cX8_find 58 = .ok (.aload_n 0, 1) := by decide +kernel
theorem dX8_find_59 : decode cX8_find 59 = .ok (.getfield 55, 3) := by decide +kernel
theorem dX8_find_62 : decode cX8_find 62 = .ok (.iload_n 3, 1) := by decide +kernel
theorem dX8_find_63 : decode cX8_find 63 = .ok (.iload 4, 2) := by decide +kernel
theorem dX8_find_65 : decode cX8_find 65 = .ok (.iadd, 1) := by decide +kernel
theorem dX8_find_66 : decode cX8_find 66 = .ok (.baload, 1) := by decide +kernel
theorem dX8_find_67 : decode cX8_find 67 = .ok (.ifCond .eq 162, 3) := by decide +kernel
theorem dX8_find_70 : decode cX8_find 70 = .ok (.aload_n 0, 1) := by decide +kernel
theorem dX8_find_71 : decode cX8_find 71 = .ok (.getfield 61, 3) := by decide +kernel
theorem dX8_find_74 : decode cX8_find 74 = .ok (.iload 4, 2) := by decide +kernel
theorem dX8_find_76 : decode cX8_find 76 = .ok (.baload, 1) := by decide +kernel
theorem dX8_find_77 : decode cX8_find 77 = .ok (.ifCond .ne 6, 3) := by decide +kernel
theorem dX8_find_80 : decode cX8_find 80 = .ok (.goto 149, 3) := by decide +kernel
theorem dX8_find_83 : decode cX8_find 83 = .ok (.aload_n 0, 1) := by decide +kernel
theorem dX8_find_84 : decode cX8_find 84 = .ok (.getfield 28, 3) := by decide +kernel
theorem dX8_find_87 : decode cX8_find 87 = .ok (.iload 4, 2) := by decide +kernel
theorem dX8_find_89 : decode cX8_find 89 = .ok (.iaload, 1) := by decide +kernel
theorem dX8_find_90 : decode cX8_find 90 = .ok (.iload_n 2, 1) := by decide +kernel
theorem dX8_find_91 : decode cX8_find 91 = .ok (.if_icmp .le 11, 3) := by decide +kernel
theorem dX8_find_94 : decode cX8_find 94 = .ok (.aload_n 0, 1) := by decide +kernel
theorem dX8_find_95 : decode cX8_find 95 = .ok (.getfield 28, 3) := by decide +kernel
theorem dX8_find_98 : decode cX8_find 98 = .ok (.iload 4, 2) := by decide +kernel
theorem dX8_find_100 : decode cX8_find 100 = .ok (.iaload, 1) := by decide +kernel
theorem dX8_find_101 : decode cX8_find 101 = .ok (.istore_n 2, 1) := by decide +kernel
theorem dX8_find_102 : decode cX8_find 102 = .ok (.iconst (-1), 1) := by decide +kernel
theorem dX8_find_103 : decode cX8_find 103 = .ok (.istore 5, 2) := by decide +kernel
theorem dX8_find_105 : decode cX8_find 105 = .ok (.iconst 0, 1) := by decide +kernel
theorem dX8_find_106 : decode cX8_find 106 = .ok (.istore 6, 2) := by decide +kernel
theorem dX8_find_108 : decode cX8_find 108 = .ok (.iload 6, 2) := by decide +kernel
theorem dX8_find_110 : decode cX8_find 110 = .ok (.aload_n 0, 1) := by decide +kernel
theorem dX8_find_111 : decode cX8_find 111 = .ok (.getfield 200, 3) := by decide +kernel
theorem dX8_find_114 : decode cX8_find 114 = .ok (.if_icmp .ge 86, 3) := by decide +kernel
theorem dX8_find_117 : decode cX8_find 117 = .ok (.aload_n 0, 1) := by decide +kernel
theorem dX8_find_118 : decode cX8_find 118 = .ok (.getfield 55, 3) := by decide +kernel
theorem dX8_find_121 : decode cX8_find 121 = .ok (.iload_n 3, 1) := by decide +kernel
theorem dX8_find_122 : decode cX8_find 122 = .ok (.iload 6, 2) := by decide +kernel
theorem dX8_find_124 : decode cX8_find 124 = .ok (.iadd, 1) := by decide +kernel
theorem dX8_find_125 : decode cX8_find 125 = .ok (.baload, 1) := by decide +kernel
theorem dX8_find_126 : decode cX8_find 126 = .ok (.ifCond .eq 68, 3) := by decide +kernel
theorem dX8_find_129 : decode cX8_find 129 = .ok (.aload_n 0, 1) := by decide +kernel
theorem dX8_find_130 : decode cX8_find 130 = .ok (.getfield 61, 3) := by decide +kernel
theorem dX8_find_133 : decode cX8_find 133 = .ok (.iload 6, 2) := by decide +kernel
theorem dX8_find_135 : decode cX8_find 135 = .ok (.baload, 1) := by decide +kernel
theorem dX8_find_136 : decode cX8_find 136 = .ok (.ifCond .eq 58, 3) := by decide +kernel
theorem dX8_find_139 : decode cX8_find 139 = .ok (.aload_n 0, 1) := by decide +kernel
theorem dX8_find_140 : decode cX8_find 140 = .ok (.getfield 28, 3) := by decide +kernel
theorem dX8_find_143 : decode cX8_find 143 = .ok (.iload 6, 2) := by decide +kernel
theorem dX8_find_145 : decode cX8_find 145 = .ok (.iaload, 1) := by decide +kernel
theorem dX8_find_146 : decode cX8_find 146 = .ok (.aload_n 0, 1) := by decide +kernel
theorem dX8_find_147 : decode cX8_find 147 = .ok (.getfield 28, 3) := by decide +kernel
theorem dX8_find_150 : decode cX8_find 150 = .ok (.iload 4, 2) := by decide +kernel
theorem dX8_find_152 : decode cX8_find 152 = .ok (.iaload, 1) := by decide +kernel
theorem dX8_find_153 : decode cX8_find 153 = .ok (.if_icmp .le 41, 3) := by decide +kernel
theorem dX8_find_156 : decode cX8_find 156 = .ok (.aload_n 0, 1) := by decide +kernel
theorem dX8_find_157 : decode cX8_find 157 = .ok (.iload 6, 2) := by decide +kernel
theorem dX8_find_159 : decode cX8_find 159 = .ok (.iload 4, 2) := by decide +kernel
theorem dX8_find_161 : decode cX8_find 161 = .ok (.invokevirtual 240, 3) := by decide +kernel
theorem dX8_find_164 : decode cX8_find 164 = .ok (.iconst 1, 1) := by decide +kernel
theorem dX8_find_165 : decode cX8_find 165 = .ok (.if_icmp .le 29, 3) := by decide +kernel
theorem dX8_find_168 : decode cX8_find 168 = .ok (.iload 5, 2) := by decide +kernel
theorem dX8_find_170 : decode cX8_find 170 = .ok (.ifCond .lt 20, 3) := by decide +kernel
theorem dX8_find_173 : decode cX8_find 173 = .ok (.aload_n 0, 1) := by decide +kernel
theorem dX8_find_174 : decode cX8_find 174 = .ok (.getfield 28, 3) := by decide +kernel
theorem dX8_find_177 : decode cX8_find 177 = .ok (.iload 6, 2) := by decide +kernel
theorem dX8_find_179 : decode cX8_find 179 = .ok (.iaload, 1) := by decide +kernel
theorem dX8_find_180 : decode cX8_find 180 = .ok (.aload_n 0, 1) := by decide +kernel
theorem dX8_find_181 : decode cX8_find 181 = .ok (.getfield 28, 3) := by decide +kernel
theorem dX8_find_184 : decode cX8_find 184 = .ok (.iload 5, 2) := by decide +kernel
theorem dX8_find_186 : decode cX8_find 186 = .ok (.iaload, 1) := by decide +kernel
theorem dX8_find_187 : decode cX8_find 187 = .ok (.if_icmp .ge 7, 3) := by decide +kernel
theorem dX8_find_190 : decode cX8_find 190 = .ok (.iload 6, 2) := by decide +kernel
theorem dX8_find_192 : decode cX8_find 192 = .ok (.istore 5, 2) := by decide +kernel
theorem dX8_find_194 : decode cX8_find 194 = .ok (.iinc 6 1, 3) := by decide +kernel
theorem dX8_find_197 : decode cX8_find 197 = .ok (.goto (-89), 3) := by decide +kernel
theorem dX8_find_200 : decode cX8_find 200 = .ok (.iload 5, 2) := by decide +kernel
theorem dX8_find_202 : decode cX8_find 202 = .ok (.ifCond .lt 27, 3) := by decide +kernel
theorem dX8_find_205 : decode cX8_find 205 = .ok (.aload_n 0, 1) := by decide +kernel
theorem dX8_find_206 : decode cX8_find 206 = .ok (.getfield 75, 3) := by decide +kernel
theorem dX8_find_209 : decode cX8_find 209 = .ok (.iload 4, 2) := by decide +kernel
theorem dX8_find_211 : decode cX8_find 211 = .ok (.aload_n 0, 1) := by decide +kernel
theorem dX8_find_212 : decode cX8_find 212 = .ok (.iload 5, 2) := by decide +kernel
theorem dX8_find_214 : decode cX8_find 214 = .ok (.iload 4, 2) := by decide +kernel
theorem dX8_find_216 : decode cX8_find 216 = .ok (.invokevirtual 240, 3) := by decide +kernel
theorem dX8_find_219 : decode cX8_find 219 = .ok (.iconst 3, 1) := by decide +kernel
theorem dX8_find_220 : decode cX8_find 220 = .ok (.if_icmp .ne 7, 3) := by decide +kernel
theorem dX8_find_223 : decode cX8_find 223 = .ok (.iconst 2, 1) := by decide +kernel
theorem dX8_find_224 : decode cX8_find 224 = .ok (.goto 4, 3) := by decide +kernel
theorem dX8_find_227 : decode cX8_find 227 = .ok (.iconst 1, 1) := by decide +kernel
theorem dX8_find_228 : decode cX8_find 228 = .ok (.iastore, 1) := by decide +kernel
theorem dX8_find_229 : decode cX8_find 229 = .ok (.iinc 4 1, 3) := by decide +kernel
theorem dX8_find_232 : decode cX8_find 232 = .ok (.goto (-207), 3) := by decide +kernel
theorem dX8_find_235 : decode cX8_find 235 = .ok (.iconst 0, 1) := by decide +kernel
theorem dX8_find_236 : decode cX8_find 236 = .ok (.istore 4, 2) := by decide +kernel
theorem dX8_find_238 : decode cX8_find 238 = .ok (.iload 4, 2) := by decide +kernel
theorem dX8_find_240 : decode cX8_find 240 = .ok (.aload_n 0, 1) := by decide +kernel
theorem dX8_find_241 : decode cX8_find 241 = .ok (.getfield 200, 3) := by decide +kernel
theorem dX8_find_244 : decode cX8_find 244 = .ok (.if_icmp .ge 112, 3) := by decide +kernel
theorem dX8_find_247 : decode cX8_find 247 = .ok (.aload_n 0, 1) := by decide +kernel
theorem dX8_find_248 : decode cX8_find 248 = .ok (.getfield 75, 3) := by decide +kernel
theorem dX8_find_251 : decode cX8_find 251 = .ok (.iload 4, 2) := by decide +kernel
theorem dX8_find_253 : decode cX8_find 253 = .ok (.iaload, 1) := by decide +kernel
theorem dX8_find_254 : decode cX8_find 254 = .ok (.iconst 2, 1) := by decide +kernel
theorem dX8_find_255 : decode cX8_find 255 = .ok (.if_icmp .eq 6, 3) := by decide +kernel
theorem dX8_find_258 : decode cX8_find 258 = .ok (.goto 92, 3) := by decide +kernel
theorem dX8_find_261 : decode cX8_find 261 = .ok (.iconst 1, 1) := by decide +kernel
theorem dX8_find_262 : decode cX8_find 262 = .ok (.istore 5, 2) := by decide +kernel
theorem dX8_find_264 : decode cX8_find 264 = .ok (.iconst 0, 1) := by decide +kernel
theorem dX8_find_265 : decode cX8_find 265 = .ok (.istore 6, 2) := by decide +kernel
theorem dX8_find_267 : decode cX8_find 267 = .ok (.iload 6, 2) := by decide +kernel
theorem dX8_find_269 : decode cX8_find 269 = .ok (.aload_n 0, 1) := by decide +kernel
theorem dX8_find_270 : decode cX8_find 270 = .ok (.getfield 200, 3) := by decide +kernel
theorem dX8_find_273 : decode cX8_find 273 = .ok (.if_icmp .ge 64, 3) := by decide +kernel
theorem dX8_find_276 : decode cX8_find 276 = .ok (.iload 6, 2) := by decide +kernel
theorem dX8_find_278 : decode cX8_find 278 = .ok (.iload 4, 2) := by decide +kernel
theorem dX8_find_280 : decode cX8_find 280 = .ok (.if_icmp .eq 51, 3) := by decide +kernel
theorem dX8_find_283 : decode cX8_find 283 = .ok (.aload_n 0, 1) := by decide +kernel
theorem dX8_find_284 : decode cX8_find 284 = .ok (.getfield 75, 3) := by decide +kernel
theorem dX8_find_287 : decode cX8_find 287 = .ok (.iload 6, 2) := by decide +kernel
theorem dX8_find_289 : decode cX8_find 289 = .ok (.iaload, 1) := by decide +kernel
theorem dX8_find_290 : decode cX8_find 290 = .ok (.iconst 2, 1) := by decide +kernel
theorem dX8_find_291 : decode cX8_find 291 = .ok (.if_icmp .lt 40, 3) := by decide +kernel
theorem dX8_find_294 : decode cX8_find 294 = .ok (.aload_n 0, 1) := by decide +kernel
theorem dX8_find_295 : decode cX8_find 295 = .ok (.getfield 9, 3) := by decide +kernel
theorem dX8_find_298 : decode cX8_find 298 = .ok (.iload 6, 2) := by decide +kernel
theorem dX8_find_300 : decode cX8_find 300 = .ok (.iaload, 1) := by decide +kernel
theorem dX8_find_301 : decode cX8_find 301 = .ok (.aload_n 0, 1) := by decide +kernel
theorem dX8_find_302 : decode cX8_find 302 = .ok (.getfield 9, 3) := by decide +kernel
theorem dX8_find_305 : decode cX8_find 305 = .ok (.iload 4, 2) := by decide +kernel
theorem dX8_find_307 : decode cX8_find 307 = .ok (.iaload, 1) := by decide +kernel
theorem dX8_find_308 : decode cX8_find 308 = .ok (.if_icmp .ne 23, 3) := by decide +kernel
theorem dX8_find_311 : decode cX8_find 311 = .ok (.aload_n 0, 1) := by decide +kernel
theorem dX8_find_312 : decode cX8_find 312 = .ok (.getfield 28, 3) := by decide +kernel
theorem dX8_find_315 : decode cX8_find 315 = .ok (.iload 6, 2) := by decide +kernel
theorem dX8_find_317 : decode cX8_find 317 = .ok (.iaload, 1) := by decide +kernel
theorem dX8_find_318 : decode cX8_find 318 = .ok (.aload_n 0, 1) := by decide +kernel
theorem dX8_find_319 : decode cX8_find 319 = .ok (.getfield 28, 3) := by decide +kernel
theorem dX8_find_322 : decode cX8_find 322 = .ok (.iload 4, 2) := by decide +kernel
theorem dX8_find_324 : decode cX8_find 324 = .ok (.iaload, 1) := by decide +kernel
theorem dX8_find_325 : decode cX8_find 325 = .ok (.if_icmp .ne 6, 3) := by decide +kernel
theorem dX8_find_328 : decode cX8_find 328 = .ok (.iconst 0, 1) := by decide +kernel
theorem dX8_find_329 : decode cX8_find 329 = .ok (.istore 5, 2) := by decide +kernel
theorem dX8_find_331 : decode cX8_find 331 = .ok (.iinc 6 1, 3) := by decide +kernel
theorem dX8_find_334 : decode cX8_find 334 = .ok (.goto (-67), 3) := by decide +kernel
theorem dX8_find_337 : decode cX8_find 337 = .ok (.iload 5, 2) := by decide +kernel
theorem dX8_find_339 : decode cX8_find 339 = .ok (.ifCond .eq 11, 3) := by decide +kernel
theorem dX8_find_342 : decode cX8_find 342 = .ok (.aload_n 0, 1) := by decide +kernel
theorem dX8_find_343 : decode cX8_find 343 = .ok (.getfield 75, 3) := by decide +kernel
theorem dX8_find_346 : decode cX8_find 346 = .ok (.iload 4, 2) := by decide +kernel
theorem dX8_find_348 : decode cX8_find 348 = .ok (.iconst 3, 1) := by decide +kernel
theorem dX8_find_349 : decode cX8_find 349 = .ok (.iastore, 1) := by decide +kernel
theorem dX8_find_350 : decode cX8_find 350 = .ok (.iinc 4 1, 3) := by decide +kernel
theorem dX8_find_353 : decode cX8_find 353 = .ok (.goto (-115), 3) := by decide +kernel
theorem dX8_find_356 : decode cX8_find 356 = .ok (.aload_n 0, 1) := by decide +kernel
theorem dX8_find_357 : decode cX8_find 357 = .ok (.iconst 0, 1) := by decide +kernel
theorem dX8_find_358 : decode cX8_find 358 = .ok (.putfield 269, 3) := by decide +kernel
theorem dX8_find_361 : decode cX8_find 361 = .ok (.aload_n 0, 1) := by decide +kernel
theorem dX8_find_362 : decode cX8_find 362 = .ok (.iconst 0, 1) := by decide +kernel
theorem dX8_find_363 : decode cX8_find 363 = .ok (.putfield 272, 3) := by decide +kernel
theorem dX8_find_366 : decode cX8_find 366 = .ok (.iconst 1, 1) := by decide +kernel
theorem dX8_find_367 : decode cX8_find 367 = .ok (.istore 4, 2) := by decide +kernel
theorem dX8_find_369 : decode cX8_find 369 = .ok (.iconst 1, 1) := by decide +kernel
theorem dX8_find_370 : decode cX8_find 370 = .ok (.istore 5, 2) := by decide +kernel
theorem dX8_find_372 : decode cX8_find 372 = .ok (.iload 5, 2) := by decide +kernel
theorem dX8_find_374 : decode cX8_find 374 = .ok (.iload_n 2, 1) := by decide +kernel
theorem dX8_find_375 : decode cX8_find 375 = .ok (.if_icmp .gt 138, 3) := by decide +kernel
theorem dX8_find_378 : decode cX8_find 378 = .ok (.iconst 0, 1) := by decide +kernel
theorem dX8_find_379 : decode cX8_find 379 = .ok (.istore 6, 2) := by decide +kernel
theorem dX8_find_381 : decode cX8_find 381 = .ok (.iconst 0, 1) := by decide +kernel
theorem dX8_find_382 : decode cX8_find 382 = .ok (.istore 7, 2) := by decide +kernel
theorem dX8_find_384 : decode cX8_find 384 = .ok (.iload 7, 2) := by decide +kernel
theorem dX8_find_386 : decode cX8_find 386 = .ok (.aload_n 0, 1) := by decide +kernel
theorem dX8_find_387 : decode cX8_find 387 = .ok (.getfield 200, 3) := by decide +kernel
theorem dX8_find_390 : decode cX8_find 390 = .ok (.if_icmp .ge 87, 3) := by decide +kernel
theorem dX8_find_393 : decode cX8_find 393 = .ok (.aload_n 0, 1) := by decide +kernel
theorem dX8_find_394 : decode cX8_find 394 = .ok (.getfield 55, 3) := by decide +kernel
theorem dX8_find_397 : decode cX8_find 397 = .ok (.iload_n 3, 1) := by decide +kernel
theorem dX8_find_398 : decode cX8_find 398 = .ok (.iload 7, 2) := by decide +kernel
theorem dX8_find_400 : decode cX8_find 400 = .ok (.iadd, 1) := by decide +kernel
theorem dX8_find_401 : decode cX8_find 401 = .ok (.baload, 1) := by decide +kernel
theorem dX8_find_402 : decode cX8_find 402 = .ok (.ifCond .eq 69, 3) := by decide +kernel
theorem dX8_find_405 : decode cX8_find 405 = .ok (.aload_n 0, 1) := by decide +kernel
theorem dX8_find_406 : decode cX8_find 406 = .ok (.getfield 61, 3) := by decide +kernel
theorem dX8_find_409 : decode cX8_find 409 = .ok (.iload 7, 2) := by decide +kernel
theorem dX8_find_411 : decode cX8_find 411 = .ok (.baload, 1) := by decide +kernel
theorem dX8_find_412 : decode cX8_find 412 = .ok (.ifCond .eq 59, 3) := by decide +kernel
theorem dX8_find_415 : decode cX8_find 415 = .ok (.aload_n 0, 1) := by decide +kernel
theorem dX8_find_416 : decode cX8_find 416 = .ok (.getfield 28, 3) := by decide +kernel
theorem dX8_find_419 : decode cX8_find 419 = .ok (.iload 7, 2) := by decide +kernel
theorem dX8_find_421 : decode cX8_find 421 = .ok (.iaload, 1) := by decide +kernel
theorem dX8_find_422 : decode cX8_find 422 = .ok (.iload 5, 2) := by decide +kernel
theorem dX8_find_424 : decode cX8_find 424 = .ok (.if_icmp .eq 6, 3) := by decide +kernel
theorem dX8_find_427 : decode cX8_find 427 = .ok (.goto 44, 3) := by decide +kernel
theorem dX8_find_430 : decode cX8_find 430 = .ok (.iload 4, 2) := by decide +kernel
theorem dX8_find_432 : decode cX8_find 432 = .ok (.aload_n 0, 1) := by decide +kernel
theorem dX8_find_433 : decode cX8_find 433 = .ok (.getfield 75, 3) := by decide +kernel
theorem dX8_find_436 : decode cX8_find 436 = .ok (.iload 7, 2) := by decide +kernel
theorem dX8_find_438 : decode cX8_find 438 = .ok (.iaload, 1) := by decide +kernel
theorem dX8_find_439 : decode cX8_find 439 = .ok (.ifCond .eq 7, 3) := by decide +kernel
theorem dX8_find_442 : decode cX8_find 442 = .ok (.iconst 1, 1) := by decide +kernel
theorem dX8_find_443 : decode cX8_find 443 = .ok (.goto 4, 3) := by decide +kernel
theorem dX8_find_446 : decode cX8_find 446 = .ok (.iconst 0, 1) := by decide +kernel
theorem dX8_find_447 : decode cX8_find 447 = .ok (.iand, 1) := by decide +kernel
theorem dX8_find_448 : decode cX8_find 448 = .ok (.istore 4, 2) := by decide +kernel
theorem dX8_find_450 : decode cX8_find 450 = .ok (.iload 6, 2) := by decide +kernel
theorem dX8_find_452 : decode cX8_find 452 = .ok (.aload_n 0, 1) := by decide +kernel
theorem dX8_find_453 : decode cX8_find 453 = .ok (.getfield 75, 3) := by decide +kernel
theorem dX8_find_456 : decode cX8_find 456 = .ok (.iload 7, 2) := by decide +kernel
theorem dX8_find_458 : decode cX8_find 458 = .ok (.iaload, 1) := by decide +kernel
theorem dX8_find_459 : decode cX8_find 459 = .ok (.iconst 3, 1) := by decide +kernel
theorem dX8_find_460 : decode cX8_find 460 = .ok (.if_icmp .ne 7, 3) := by decide +kernel
theorem dX8_find_463 : decode cX8_find 463 = .ok (.iconst 1, 1) := by decide +kernel
theorem dX8_find_464 : decode cX8_find 464 = .ok (.goto 4, 3) := by decide +kernel
theorem dX8_find_467 : decode cX8_find 467 = .ok (.iconst 0, 1) := by decide +kernel
theorem dX8_find_468 : decode cX8_find 468 = .ok (.ior, 1) := by decide +kernel
theorem dX8_find_469 : decode cX8_find 469 = .ok (.istore 6, 2) := by decide +kernel
theorem dX8_find_471 : decode cX8_find 471 = .ok (.iinc 7 1, 3) := by decide +kernel
theorem dX8_find_474 : decode cX8_find 474 = .ok (.goto (-90), 3) := by decide +kernel
theorem dX8_find_477 : decode cX8_find 477 = .ok (.iload 4, 2) := by decide +kernel
theorem dX8_find_479 : decode cX8_find 479 = .ok (.ifCond .eq 28, 3) := by decide +kernel
theorem dX8_find_482 : decode cX8_find 482 = .ok (.iload 6, 2) := by decide +kernel
theorem dX8_find_484 : decode cX8_find 484 = .ok (.ifCond .ne 6, 3) := by decide +kernel
theorem dX8_find_487 : decode cX8_find 487 = .ok (.goto 20, 3) := by decide +kernel
theorem dX8_find_490 : decode cX8_find 490 = .ok (.aload_n 0, 1) := by decide +kernel
theorem dX8_find_491 : decode cX8_find 491 = .ok (.dup, 1) := by decide +kernel
theorem dX8_find_492 : decode cX8_find 492 = .ok (.getfield 272, 3) := by decide +kernel
theorem dX8_find_495 : decode cX8_find 495 = .ok (.iconst 1, 1) := by decide +kernel
theorem dX8_find_496 : decode cX8_find 496 = .ok (.iadd, 1) := by decide +kernel
theorem dX8_find_497 : decode cX8_find 497 = .ok (.putfield 272, 3) := by decide +kernel
theorem dX8_find_500 : decode cX8_find 500 = .ok (.aload_n 0, 1) := by decide +kernel
theorem dX8_find_501 : decode cX8_find 501 = .ok (.iload_n 1, 1) := by decide +kernel
theorem dX8_find_502 : decode cX8_find 502 = .ok (.iload 5, 2) := by decide +kernel
theorem dX8_find_504 : decode cX8_find 504 = .ok (.invokevirtual 275, 3) := by decide +kernel
theorem dX8_find_507 : decode cX8_find 507 = .ok (.iinc 5 1, 3) := by decide +kernel
theorem dX8_find_510 : decode cX8_find 510 = .ok (.goto (-138), 3) := by decide +kernel
theorem dX8_find_513 : decode cX8_find 513 = .ok (.iconst 0, 1) := by decide +kernel
theorem dX8_find_514 : decode cX8_find 514 = .ok (.istore 5, 2) := by decide +kernel
theorem dX8_find_516 : decode cX8_find 516 = .ok (.iload 5, 2) := by decide +kernel
theorem dX8_find_518 : decode cX8_find 518 = .ok (.aload_n 0, 1) := by decide +kernel
theorem dX8_find_519 : decode cX8_find 519 = .ok (.getfield 193, 3) := by decide +kernel
theorem dX8_find_522 : decode cX8_find 522 = .ok (.if_icmp .ge 19, 3) := by decide +kernel
theorem dX8_find_525 : decode cX8_find 525 = .ok (.aload_n 0, 1) := by decide +kernel
theorem dX8_find_526 : decode cX8_find 526 = .ok (.getfield 87, 3) := by decide +kernel
theorem dX8_find_529 : decode cX8_find 529 = .ok (.iload 5, 2) := by decide +kernel
theorem dX8_find_531 : decode cX8_find 531 = .ok (.ldc_w 262, 3) := by decide +kernel
theorem dX8_find_534 : decode cX8_find 534 = .ok (.iastore, 1) := by decide +kernel
theorem dX8_find_535 : decode cX8_find 535 = .ok (.iinc 5 1, 3) := by decide +kernel
theorem dX8_find_538 : decode cX8_find 538 = .ok (.goto (-22), 3) := by decide +kernel
theorem dX8_find_541 : decode cX8_find 541 = .ok (.iconst 0, 1) := by decide +kernel
theorem dX8_find_542 : decode cX8_find 542 = .ok (.istore 5, 2) := by decide +kernel
theorem dX8_find_544 : decode cX8_find 544 = .ok (.iload 5, 2) := by decide +kernel
theorem dX8_find_546 : decode cX8_find 546 = .ok (.aload_n 0, 1) := by decide +kernel
theorem dX8_find_547 : decode cX8_find 547 = .ok (.getfield 269, 3) := by decide +kernel
theorem dX8_find_550 : decode cX8_find 550 = .ok (.if_icmp .ge 121, 3) := by decide +kernel
theorem dX8_find_553 : decode cX8_find 553 = .ok (.aload_n 0, 1) := by decide +kernel
theorem dX8_find_554 : decode cX8_find 554 = .ok (.getfield 84, 3) := by decide +kernel
theorem dX8_find_557 : decode cX8_find 557 = .ok (.iload 5, 2) := by decide +kernel
theorem dX8_find_559 : decode cX8_find 559 = .ok (.iaload, 1) := by decide +kernel
theorem dX8_find_560 : decode cX8_find 560 = .ok (.istore 6, 2) := by decide +kernel
theorem dX8_find_562 : decode cX8_find 562 = .ok (.aload_n 0, 1) := by decide +kernel
theorem dX8_find_563 : decode cX8_find 563 = .ok (.getfield 81, 3) := by decide +kernel
theorem dX8_find_566 : decode cX8_find 566 = .ok (.iload 6, 2) := by decide +kernel
theorem dX8_find_568 : decode cX8_find 568 = .ok (.iload 5, 2) := by decide +kernel
theorem dX8_find_570 : decode cX8_find 570 = .ok (.iastore, 1) := by decide +kernel
theorem dX8_find_571 : decode cX8_find 571 = .ok (.iconst 0, 1) := by decide +kernel
theorem dX8_find_572 : decode cX8_find 572 = .ok (.istore 7, 2) := by decide +kernel
theorem dX8_find_574 : decode cX8_find 574 = .ok (.iload 7, 2) := by decide +kernel
theorem dX8_find_576 : decode cX8_find 576 = .ok (.aload_n 0, 1) := by decide +kernel
theorem dX8_find_577 : decode cX8_find 577 = .ok (.getfield 19, 3) := by decide +kernel
theorem dX8_find_580 : decode cX8_find 580 = .ok (.iload 6, 2) := by decide +kernel
theorem dX8_find_582 : decode cX8_find 582 = .ok (.iaload, 1) := by decide +kernel
theorem dX8_find_583 : decode cX8_find 583 = .ok (.if_icmp .ge 82, 3) := by decide +kernel
theorem dX8_find_586 : decode cX8_find 586 = .ok (.aload_n 0, 1) := by decide +kernel
theorem dX8_find_587 : decode cX8_find 587 = .ok (.getfield 25, 3) := by decide +kernel
theorem dX8_find_590 : decode cX8_find 590 = .ok (.iconst 3, 1) := by decide +kernel
theorem dX8_find_591 : decode cX8_find 591 = .ok (.iload 6, 2) := by decide +kernel
theorem dX8_find_593 : decode cX8_find 593 = .ok (.imul, 1) := by decide +kernel
theorem dX8_find_594 : decode cX8_find 594 = .ok (.iload 7, 2) := by decide +kernel
theorem dX8_find_596 : decode cX8_find 596 = .ok (.iadd, 1) := by decide +kernel
theorem dX8_find_597 : decode cX8_find 597 = .ok (.iaload, 1) := by decide +kernel
theorem dX8_find_598 : decode cX8_find 598 = .ok (.istore 8, 2) := by decide +kernel
theorem dX8_find_600 : decode cX8_find 600 = .ok (.aload_n 0, 1) := by decide +kernel
theorem dX8_find_601 : decode cX8_find 601 = .ok (.getfield 87, 3) := by decide +kernel
theorem dX8_find_604 : decode cX8_find 604 = .ok (.aload_n 0, 1) := by decide +kernel
theorem dX8_find_605 : decode cX8_find 605 = .ok (.getfield 9, 3) := by decide +kernel
theorem dX8_find_608 : decode cX8_find 608 = .ok (.iload 6, 2) := by decide +kernel
theorem dX8_find_610 : decode cX8_find 610 = .ok (.iaload, 1) := by decide +kernel
theorem dX8_find_611 : decode cX8_find 611 = .ok (.iaload, 1) := by decide +kernel
theorem dX8_find_612 : decode cX8_find 612 = .ok (.iload 8, 2) := by decide +kernel
theorem dX8_find_614 : decode cX8_find 614 = .ok (.if_icmp .ge 6, 3) := by decide +kernel
theorem dX8_find_617 : decode cX8_find 617 = .ok (.goto 42, 3) := by decide +kernel
theorem dX8_find_620 : decode cX8_find 620 = .ok (.aload_n 0, 1) := by decide +kernel
theorem dX8_find_621 : decode cX8_find 621 = .ok (.getfield 87, 3) := by decide +kernel
theorem dX8_find_624 : decode cX8_find 624 = .ok (.aload_n 0, 1) := by decide +kernel
theorem dX8_find_625 : decode cX8_find 625 = .ok (.getfield 9, 3) := by decide +kernel
theorem dX8_find_628 : decode cX8_find 628 = .ok (.iload 6, 2) := by decide +kernel
theorem dX8_find_630 : decode cX8_find 630 = .ok (.iaload, 1) := by decide +kernel
theorem dX8_find_631 : decode cX8_find 631 = .ok (.dup2, 1) := by decide +kernel
theorem dX8_find_632 : decode cX8_find 632 = .ok (.iaload, 1) := by decide +kernel
theorem dX8_find_633 : decode cX8_find 633 = .ok (.iload 8, 2) := by decide +kernel
theorem dX8_find_635 : decode cX8_find 635 = .ok (.isub, 1) := by decide +kernel
theorem dX8_find_636 : decode cX8_find 636 = .ok (.iastore, 1) := by decide +kernel
theorem dX8_find_637 : decode cX8_find 637 = .ok (.aload_n 0, 1) := by decide +kernel
theorem dX8_find_638 : decode cX8_find 638 = .ok (.getfield 87, 3) := by decide +kernel
theorem dX8_find_641 : decode cX8_find 641 = .ok (.aload_n 0, 1) := by decide +kernel
theorem dX8_find_642 : decode cX8_find 642 = .ok (.getfield 22, 3) := by decide +kernel
theorem dX8_find_645 : decode cX8_find 645 = .ok (.iconst 3, 1) := by decide +kernel
theorem dX8_find_646 : decode cX8_find 646 = .ok (.iload 6, 2) := by decide +kernel
theorem dX8_find_648 : decode cX8_find 648 = .ok (.imul, 1) := by decide +kernel
theorem dX8_find_649 : decode cX8_find 649 = .ok (.iload 7, 2) := by decide +kernel
theorem dX8_find_651 : decode cX8_find 651 = .ok (.iadd, 1) := by decide +kernel
theorem dX8_find_652 : decode cX8_find 652 = .ok (.iaload, 1) := by decide +kernel
theorem dX8_find_653 : decode cX8_find 653 = .ok (.dup2, 1) := by decide +kernel
theorem dX8_find_654 : decode cX8_find 654 = .ok (.iaload, 1) := by decide +kernel
theorem dX8_find_655 : decode cX8_find 655 = .ok (.iload 8, 2) := by decide +kernel
theorem dX8_find_657 : decode cX8_find 657 = .ok (.iadd, 1) := by decide +kernel
theorem dX8_find_658 : decode cX8_find 658 = .ok (.iastore, 1) := by decide +kernel
theorem dX8_find_659 : decode cX8_find 659 = .ok (.iinc 7 1, 3) := by decide +kernel
theorem dX8_find_662 : decode cX8_find 662 = .ok (.goto (-88), 3) := by decide +kernel
theorem dX8_find_665 : decode cX8_find 665 = .ok (.iinc 5 1, 3) := by decide +kernel
theorem dX8_find_668 : decode cX8_find 668 = .ok (.goto (-124), 3) := by decide +kernel
theorem dX8_find_671 : decode cX8_find 671 = .ok (.return_, 1) := by decide +kernel
theorem dX8_isUnique_0 : decode cX8_isUnique 0 = .ok (.aload_n 0, 1) := by decide +kernel
theorem dX8_isUnique_1 : decode cX8_isUnique 1 = .ok (.getfield 75, 3) := by decide +kernel
theorem dX8_isUnique_4 : decode cX8_isUnique 4 = .ok (.iload_n 1, 1) := by decide +kernel
theorem dX8_isUnique_5 : decode cX8_isUnique 5 = .ok (.iaload, 1) := by decide +kernel
theorem dX8_isUnique_6 : decode cX8_isUnique 6 = .ok (.iconst 3, 1) := by decide +kernel
theorem dX8_isUnique_7 : decode cX8_isUnique 7 = .ok (.if_icmp .ne 17, 3) := by decide +kernel
theorem dX8_isUnique_10 : decode cX8_isUnique 10 = .ok (.aload_n 0, 1) := by decide +kernel
theorem dX8_isUnique_11 : decode cX8_isUnique 11 = .ok (.getfield 28, 3) := by decide +kernel
theorem dX8_isUnique_14 : decode cX8_isUnique 14 = .ok (.iload_n 1, 1) := by decide +kernel
theorem dX8_isUnique_15 : decode cX8_isUnique 15 = .ok (.iaload, 1) := by decide +kernel
theorem dX8_isUnique_16 : decode cX8_isUnique 16 = .ok (.iload_n 2, 1) := by decide +kernel
theorem dX8_isUnique_17 : decode cX8_isUnique 17 = .ok (.if_icmp .ne 7, 3) := by decide +kernel
theorem dX8_isUnique_20 : decode cX8_isUnique 20 = .ok (.iconst 1, 1) := by decide +kernel
theorem dX8_isUnique_21 : decode cX8_isUnique 21 = .ok (.goto 4, 3) := by decide +kernel
theorem dX8_isUnique_24 : decode cX8_isUnique 24 = .ok (.iconst 0, 1) := by decide +kernel
theorem dX8_isUnique_25 : decode cX8_isUnique 25 = .ok (.ireturn, 1) := by decide +kernel
theorem dX8_receive_0 : decode cX8_receive 0 = .ok (.aload_n 0, 1) := by decide +kernel
theorem dX8_receive_1 : decode cX8_receive 1 = .ok (.getfield 269, 3) := by decide +kernel
theorem dX8_receive_4 : decode cX8_receive 4 = .ok (.istore_n 3, 1) := by decide +kernel
theorem dX8_receive_5 : decode cX8_receive 5 = .ok (.iconst 0, 1) := by decide +kernel
theorem dX8_receive_6 : decode cX8_receive 6 = .ok (.istore 4, 2) := by decide +kernel
theorem dX8_receive_8 : decode cX8_receive 8 = .ok (.iload 4, 2) := by decide +kernel
theorem dX8_receive_10 : decode cX8_receive 10 = .ok (.bipush 8, 2) := by decide +kernel
theorem dX8_receive_12 : decode cX8_receive 12 = .ok (.if_icmp .ge 17, 3) := by decide +kernel
theorem dX8_receive_15 : decode cX8_receive 15 = .ok (.aload_n 0, 1) := by decide +kernel
theorem dX8_receive_16 : decode cX8_receive 16 = .ok (.getfield 90, 3) := by decide +kernel
theorem dX8_receive_19 : decode cX8_receive 19 = .ok (.iload 4, 2) := by decide +kernel
theorem dX8_receive_21 : decode cX8_receive 21 = .ok (.iconst 0, 1) := by decide +kernel
theorem dX8_receive_22 : decode cX8_receive 22 = .ok (.iastore, 1) := by decide +kernel
theorem dX8_receive_23 : decode cX8_receive 23 = .ok (.iinc 4 1, 3) := by decide +kernel
theorem dX8_receive_26 : decode cX8_receive 26 = .ok (.goto (-18), 3) := by decide +kernel
theorem dX8_receive_29 : decode cX8_receive 29 = .ok (.iconst 0, 1) := by decide +kernel
theorem dX8_receive_30 : decode cX8_receive 30 = .ok (.istore 4, 2) := by decide +kernel
theorem dX8_receive_32 : decode cX8_receive 32 = .ok (.iload 4, 2) := by decide +kernel
theorem dX8_receive_34 : decode cX8_receive 34 = .ok (.aload_n 0, 1) := by decide +kernel
theorem dX8_receive_35 : decode cX8_receive 35 = .ok (.getfield 200, 3) := by decide +kernel
theorem dX8_receive_38 : decode cX8_receive 38 = .ok (.if_icmp .ge 58, 3) := by decide +kernel
theorem dX8_receive_41 : decode cX8_receive 41 = .ok (.aload_n 0, 1) := by decide +kernel
theorem dX8_receive_42 : decode cX8_receive 42 = .ok (.iload 4, 2) := by decide +kernel
theorem dX8_receive_44 : decode cX8_receive 44 = .ok (.iload_n 2, 1) := by decide +kernel
theorem dX8_receive_45 : decode cX8_receive 45 = .ok (.invokevirtual 279, 3) := by decide +kernel
theorem dX8_receive_48 : decode cX8_receive 48 = .ok (.ifCond .eq 42, 3) := by decide +kernel
theorem dX8_receive_51 : decode cX8_receive 51 = .ok (.iconst 0, 1) := by decide +kernel
theorem dX8_receive_52 : decode cX8_receive 52 = .ok (.istore 5, 2) := by decide +kernel
theorem dX8_receive_54 : decode cX8_receive 54 = .ok (.iload 5, 2) := by decide +kernel
theorem dX8_receive_56 : decode cX8_receive 56 = .ok (.bipush 8, 2) := by decide +kernel
theorem dX8_receive_58 : decode cX8_receive 58 = .ok (.if_icmp .ge 32, 3) := by decide +kernel
theorem dX8_receive_61 : decode cX8_receive 61 = .ok (.aload_n 0, 1) := by decide +kernel
theorem dX8_receive_62 : decode cX8_receive 62 = .ok (.getfield 90, 3) := by decide +kernel
theorem dX8_receive_65 : decode cX8_receive 65 = .ok (.iload 5, 2) := by decide +kernel
theorem dX8_receive_67 : decode cX8_receive 67 = .ok (.dup2, 1) := by decide +kernel
theorem dX8_receive_68 : decode cX8_receive 68 = .ok (.iaload, 1) := by decide +kernel
theorem dX8_receive_69 : decode cX8_receive 69 = .ok (.aload_n 0, 1) := by decide +kernel
theorem dX8_receive_70 : decode cX8_receive 70 = .ok (.getfield 31, 3) := by decide +kernel
theorem dX8_receive_73 : decode cX8_receive 73 = .ok (.bipush 8, 2) := by decide +kernel
theorem dX8_receive_75 : decode cX8_receive 75 = .ok (.iload 4, 2) := by decide +kernel
theorem dX8_receive_77 : decode cX8_receive 77 = .ok (.imul, 1) := by decide +kernel
theorem dX8_receive_78 : decode cX8_receive 78 = .ok (.iload 5, 2) := by decide +kernel
theorem dX8_receive_80 : decode cX8_receive 80 = .ok (.iadd, 1) := by decide +kernel
theorem dX8_receive_81 : decode cX8_receive 81 = .ok (.iaload, 1) := by decide +kernel
theorem dX8_receive_82 : decode cX8_receive 82 = .ok (.ixor, 1) := by decide +kernel
theorem dX8_receive_83 : decode cX8_receive 83 = .ok (.iastore, 1) := by decide +kernel
theorem dX8_receive_84 : decode cX8_receive 84 = .ok (.iinc 5 1, 3) := by decide +kernel
theorem dX8_receive_87 : decode cX8_receive 87 = .ok (.goto (-33), 3) := by decide +kernel
theorem dX8_receive_90 : decode cX8_receive 90 = .ok (.iinc 4 1, 3) := by decide +kernel
theorem dX8_receive_93 : decode cX8_receive 93 = .ok (.goto (-61), 3) := by decide +kernel
theorem dX8_receive_96 : decode cX8_receive 96 = .ok (.iconst 0, 1) := by decide +kernel
theorem dX8_receive_97 : decode cX8_receive 97 = .ok (.istore 4, 2) := by decide +kernel
theorem dX8_receive_99 : decode cX8_receive 99 = .ok (.iload 4, 2) := by decide +kernel
theorem dX8_receive_101 : decode cX8_receive 101 = .ok (.aload_n 0, 1) := by decide +kernel
theorem dX8_receive_102 : decode cX8_receive 102 = .ok (.getfield 200, 3) := by decide +kernel
theorem dX8_receive_105 : decode cX8_receive 105 = .ok (.if_icmp .ge 314, 3) := by decide +kernel
theorem dX8_receive_108 : decode cX8_receive 108 = .ok (.aload_n 0, 1) := by decide +kernel
theorem dX8_receive_109 : decode cX8_receive 109 = .ok (.getfield 55, 3) := by decide +kernel
theorem dX8_receive_112 : decode cX8_receive 112 = .ok (.sipush 240, 3) := by decide +kernel
theorem dX8_receive_115 : decode cX8_receive 115 = .ok (.iload_n 1, 1) := by decide +kernel
theorem dX8_receive_116 : decode cX8_receive 116 = .ok (.imul, 1) := by decide +kernel
theorem dX8_receive_117 : decode cX8_receive 117 = .ok (.iload 4, 2) := by decide +kernel
theorem dX8_receive_119 : decode cX8_receive 119 = .ok (.iadd, 1) := by decide +kernel
theorem dX8_receive_120 : decode cX8_receive 120 = .ok (.baload, 1) := by decide +kernel
theorem dX8_receive_121 : decode cX8_receive 121 = .ok (.ifCond .eq 292, 3) := by decide +kernel
theorem dX8_receive_124 : decode cX8_receive 124 = .ok (.aload_n 0, 1) := by decide +kernel
theorem dX8_receive_125 : decode cX8_receive 125 = .ok (.getfield 78, 3) := by decide +kernel
theorem dX8_receive_128 : decode cX8_receive 128 = .ok (.iload 4, 2) := by decide +kernel
theorem dX8_receive_130 : decode cX8_receive 130 = .ok (.iaload, 1) := by decide +kernel
theorem dX8_receive_131 : decode cX8_receive 131 = .ok (.ifCond .eq 6, 3) := by decide +kernel
theorem dX8_receive_134 : decode cX8_receive 134 = .ok (.goto 279, 3) := by decide +kernel
theorem dX8_receive_137 : decode cX8_receive 137 = .ok (.iconst 0, 1) := by decide +kernel
theorem dX8_receive_138 : decode cX8_receive 138 = .ok (.istore 5, 2) := by decide +kernel
theorem dX8_receive_140 : decode cX8_receive 140 = .ok (.iconst 1, 1) := by decide +kernel
theorem dX8_receive_141 : decode cX8_receive 141 = .ok (.istore 6, 2) := by decide +kernel
theorem dX8_receive_143 : decode cX8_receive 143 = .ok (.iconst 0, 1) := by decide +kernel
theorem dX8_receive_144 : decode cX8_receive 144 = .ok (.istore 7, 2) := by decide +kernel
theorem dX8_receive_146 : decode cX8_receive 146 = .ok (.iload 7, 2) := by decide +kernel
theorem dX8_receive_148 : decode cX8_receive 148 = .ok (.aload_n 0, 1) := by decide +kernel
theorem dX8_receive_149 : decode cX8_receive 149 = .ok (.getfield 200, 3) := by decide +kernel
theorem dX8_receive_152 : decode cX8_receive 152 = .ok (.if_icmp .ge 161, 3) := by decide +kernel
theorem dX8_receive_155 : decode cX8_receive 155 = .ok (.aload_n 0, 1) := by decide +kernel
theorem dX8_receive_156 : decode cX8_receive 156 = .ok (.iload 7, 2) := by decide +kernel
theorem dX8_receive_158 : decode cX8_receive 158 = .ok (.iload_n 2, 1) := by decide +kernel
theorem dX8_receive_159 : decode cX8_receive 159 = .ok (.invokevirtual 279, 3) := by decide +kernel
theorem dX8_receive_162 : decode cX8_receive 162 = .ok (.ifCond .ne 6, 3) := by decide +kernel
theorem dX8_receive_165 : decode cX8_receive 165 = .ok (.goto 142, 3) := by decide +kernel
theorem dX8_receive_168 : decode cX8_receive 168 = .ok (.aload_n 0, 1) := by decide +kernel
theorem dX8_receive_169 : decode cX8_receive 169 = .ok (.getfield 51, 3) := by decide +kernel
theorem dX8_receive_172 : decode cX8_receive 172 = .ok (.sipush 240, 3) := by decide +kernel
theorem dX8_receive_175 : decode cX8_receive 175 = .ok (.iload 7, 2) := by decide +kernel
theorem dX8_receive_177 : decode cX8_receive 177 = .ok (.imul, 1) := by decide +kernel
theorem dX8_receive_178 : decode cX8_receive 178 = .ok (.iload 4, 2) := by decide +kernel
theorem dX8_receive_180 : decode cX8_receive 180 = .ok (.iadd, 1) := by decide +kernel
theorem dX8_receive_181 : decode cX8_receive 181 = .ok (.baload, 1) := by decide +kernel
theorem dX8_receive_182 : decode cX8_receive 182 = .ok (.ifCond .ne 9, 3) := by decide +kernel
theorem dX8_receive_185 : decode cX8_receive 185 = .ok (.iconst 0, 1) := by decide +kernel
theorem dX8_receive_186 : decode cX8_receive 186 = .ok (.istore 6, 2) := by decide +kernel
theorem dX8_receive_188 : decode cX8_receive 188 = .ok (.goto 119, 3) := by decide +kernel
theorem dX8_receive_191 : decode cX8_receive 191 = .ok (.iload 7, 2) := by decide +kernel
theorem dX8_receive_193 : decode cX8_receive 193 = .ok (.istore 8, 2) := by decide +kernel
theorem dX8_receive_195 : decode cX8_receive 195 = .ok (.aload_n 0, 1) := by decide +kernel
theorem dX8_receive_196 : decode cX8_receive 196 = .ok (.getfield 13, 3) := by decide +kernel
theorem dX8_receive_199 : decode cX8_receive 199 = .ok (.iload 8, 2) := by decide +kernel
theorem dX8_receive_201 : decode cX8_receive 201 = .ok (.iaload, 1) := by decide +kernel
theorem dX8_receive_202 : decode cX8_receive 202 = .ok (.ifCond .lt 37, 3) := by decide +kernel
theorem dX8_receive_205 : decode cX8_receive 205 = .ok (.aload_n 0, 1) := by decide +kernel
theorem dX8_receive_206 : decode cX8_receive 206 = .ok (.getfield 51, 3) := by decide +kernel
theorem dX8_receive_209 : decode cX8_receive 209 = .ok (.sipush 240, 3) := by decide +kernel
theorem dX8_receive_212 : decode cX8_receive 212 = .ok (.aload_n 0, 1) := by decide +kernel
theorem dX8_receive_213 : decode cX8_receive 213 = .ok (.getfield 13, 3) := by decide +kernel
theorem dX8_receive_216 : decode cX8_receive 216 = .ok (.iload 8, 2) := by decide +kernel
theorem dX8_receive_218 : decode cX8_receive 218 = .ok (.iaload, 1) := by decide +kernel
theorem dX8_receive_219 : decode cX8_receive 219 = .ok (.imul, 1) := by decide +kernel
theorem dX8_receive_220 : decode cX8_receive 220 = .ok (.iload 4, 2) := by decide +kernel
theorem dX8_receive_222 : decode cX8_receive 222 = .ok (.iadd, 1) := by decide +kernel
theorem dX8_receive_223 : decode cX8_receive 223 = .ok (.baload, 1) := by decide +kernel
theorem dX8_receive_224 : decode cX8_receive 224 = .ok (.ifCond .eq 15, 3) := by decide +kernel
theorem dX8_receive_227 : decode cX8_receive 227 = .ok (.aload_n 0, 1) := by decide +kernel
theorem dX8_receive_228 : decode cX8_receive 228 = .ok (.getfield 13, 3) := by decide +kernel
theorem dX8_receive_231 : decode cX8_receive 231 = .ok (.iload 8, 2) := by decide +kernel
theorem dX8_receive_233 : decode cX8_receive 233 = .ok (.iaload, 1) := by decide +kernel
theorem dX8_receive_234 : decode cX8_receive 234 = .ok (.istore 8, 2) := by decide +kernel
theorem dX8_receive_236 : decode cX8_receive 236 = .ok (.goto (-41), 3) := by decide +kernel
theorem dX8_receive_239 : decode cX8_receive 239 = .ok (.iload 5, 2) := by decide +kernel
theorem dX8_receive_241 : decode cX8_receive 241 = .ok (.iinc 5 1, 3) := by decide +kernel
theorem dX8_receive_244 : decode cX8_receive 244 = .ok (.istore 9, 2) := by decide +kernel
theorem dX8_receive_246 : decode cX8_receive 246 = .ok (.iload 9, 2) := by decide +kernel
theorem dX8_receive_248 : decode cX8_receive 248 = .ok (.ifCond .le 45, 3) := by decide +kernel
theorem dX8_receive_251 : decode cX8_receive 251 = .ok (.aload_n 0, 1) := by decide +kernel
theorem dX8_receive_252 : decode cX8_receive 252 = .ok (.getfield 96, 3) := by decide +kernel
theorem dX8_receive_255 : decode cX8_receive 255 = .ok (.iload 9, 2) := by decide +kernel
theorem dX8_receive_257 : decode cX8_receive 257 = .ok (.iconst 1, 1) := by decide +kernel
theorem dX8_receive_258 : decode cX8_receive 258 = .ok (.isub, 1) := by decide +kernel
theorem dX8_receive_259 : decode cX8_receive 259 = .ok (.laload, 1) := by decide +kernel
theorem dX8_receive_260 : decode cX8_receive 260 = .ok (.aload_n 0, 1) := by decide +kernel
theorem dX8_receive_261 : decode cX8_receive 261 = .ok (.getfield 46, 3) := by decide +kernel
theorem dX8_receive_264 : decode cX8_receive 264 = .ok (.iload 8, 2) := by decide +kernel
theorem dX8_receive_266 : decode cX8_receive 266 = .ok (.laload, 1) := by decide +kernel
theorem dX8_receive_267 : decode cX8_receive 267 = .ok (.lcmp, 1) := by decide +kernel
theorem dX8_receive_268 : decode cX8_receive 268 = .ok (.ifCond .le 25, 3) := by decide +kernel
theorem dX8_receive_271 : decode cX8_receive 271 = .ok (.aload_n 0, 1) := by decide +kernel
theorem dX8_receive_272 : decode cX8_receive 272 = .ok (.getfield 96, 3) := by decide +kernel
theorem dX8_receive_275 : decode cX8_receive 275 = .ok (.iload 9, 2) := by decide +kernel
theorem dX8_receive_277 : decode cX8_receive 277 = .ok (.aload_n 0, 1) := by decide +kernel
theorem dX8_receive_278 : decode cX8_receive 278 = .ok (.getfield 96, 3) := by decide +kernel
theorem dX8_receive_281 : decode cX8_receive 281 = .ok (.iload 9, 2) := by decide +kernel
theorem dX8_receive_283 : decode cX8_receive 283 = .ok (.iconst 1, 1) := by decide +kernel
theorem dX8_receive_284 : decode cX8_receive 284 = .ok (.isub, 1) := by decide +kernel
theorem dX8_receive_285 : decode cX8_receive 285 = .ok (.laload, 1) := by decide +kernel
theorem dX8_receive_286 : decode cX8_receive 286 = .ok (.lastore, 1) := by decide +kernel
theorem dX8_receive_287 : decode cX8_receive 287 = .ok (.iinc 9 (-1), 3) := by decide +kernel
theorem dX8_receive_290 : decode cX8_receive 290 = .ok (.goto (-44), 3) := by decide +kernel
theorem dX8_receive_293 : decode cX8_receive 293 = .ok (.aload_n 0, 1) := by decide +kernel
theorem dX8_receive_294 : decode cX8_receive 294 = .ok (.getfield 96, 3) := by decide +kernel
theorem dX8_receive_297 : decode cX8_receive 297 = .ok (.iload 9, 2) := by decide +kernel
theorem dX8_receive_299 : decode cX8_receive 299 = .ok (.aload_n 0, 1) := by decide +kernel
theorem dX8_receive_300 : decode cX8_receive 300 = .ok (.getfield 46, 3) := by decide +kernel
theorem dX8_receive_303 : decode cX8_receive 303 = .ok (.iload 8, 2) := by decide +kernel
theorem dX8_receive_305 : decode cX8_receive 305 = .ok (.laload, 1) := by decide +kernel
theorem dX8_receive_306 : decode cX8_receive 306 = .ok (.lastore, 1) := by decide +kernel
theorem dX8_receive_307 : decode cX8_receive 307 = .ok (.iinc 7 1, 3) := by decide +kernel
theorem dX8_receive_310 : decode cX8_receive 310 = .ok (.goto (-164), 3) := by decide +kernel
theorem dX8_receive_313 : decode cX8_receive 313 = .ok (.iload 6, 2) := by decide +kernel
theorem dX8_receive_315 : decode cX8_receive 315 = .ok (.ifCond .ne 6, 3) := by decide +kernel
theorem dX8_receive_318 : decode cX8_receive 318 = .ok (.goto 95, 3) := by decide +kernel
theorem dX8_receive_321 : decode cX8_receive 321 = .ok (.aload_n 0, 1) := by decide +kernel
theorem dX8_receive_322 : decode cX8_receive 322 = .ok (.getfield 78, 3) := by decide +kernel
theorem dX8_receive_325 : decode cX8_receive 325 = .ok (.iload 4, 2) := by decide +kernel
theorem dX8_receive_327 : decode cX8_receive 327 = .ok (.iload_n 2, 1) := by decide +kernel
theorem dX8_receive_328 : decode cX8_receive 328 = .ok (.iastore, 1) := by decide +kernel
theorem dX8_receive_329 : decode cX8_receive 329 = .ok (.aload_n 0, 1) := by decide +kernel
theorem dX8_receive_330 : decode cX8_receive 330 = .ok (.getfield 93, 3) := by decide +kernel
theorem dX8_receive_333 : decode cX8_receive 333 = .ok (.iload 4, 2) := by decide +kernel
theorem dX8_receive_335 : decode cX8_receive 335 = .ok (.aload_n 0, 1) := by decide +kernel
theorem dX8_receive_336 : decode cX8_receive 336 = .ok (.getfield 96, 3) := by decide +kernel
theorem dX8_receive_339 : decode cX8_receive 339 = .ok (.iload 5, 2) := by decide +kernel
theorem dX8_receive_341 : decode cX8_receive 341 = .ok (.iconst 2, 1) := by decide +kernel
theorem dX8_receive_342 : decode cX8_receive 342 = .ok (.idiv, 1) := by decide +kernel
theorem dX8_receive_343 : decode cX8_receive 343 = .ok (.laload, 1) := by decide +kernel
theorem dX8_receive_344 : decode cX8_receive 344 = .ok (.lastore, 1) := by decide +kernel
theorem dX8_receive_345 : decode cX8_receive 345 = .ok (.aload_n 0, 1) := by decide +kernel
theorem dX8_receive_346 : decode cX8_receive 346 = .ok (.dup, 1) := by decide +kernel
theorem dX8_receive_347 : decode cX8_receive 347 = .ok (.getfield 269, 3) := by decide +kernel
theorem dX8_receive_350 : decode cX8_receive 350 = .ok (.dup_x1, 1) := by decide +kernel
theorem dX8_receive_351 : decode cX8_receive 351 = .ok (.iconst 1, 1) := by decide +kernel
theorem dX8_receive_352 : decode cX8_receive 352 = .ok (.iadd, 1) := by decide +kernel
theorem dX8_receive_353 : decode cX8_receive 353 = .ok (.putfield 269, 3) := by decide +kernel
theorem dX8_receive_356 : decode cX8_receive 356 = .ok (.istore 7, 2) := by decide +kernel
theorem dX8_receive_358 : decode cX8_receive 358 = .ok (.iload 7, 2) := by decide +kernel
theorem dX8_receive_360 : decode cX8_receive 360 = .ok (.iload_n 3, 1) := by decide +kernel
theorem dX8_receive_361 : decode cX8_receive 361 = .ok (.if_icmp .le 43, 3) := by decide +kernel
theorem dX8_receive_364 : decode cX8_receive 364 = .ok (.aload_n 0, 1) := by decide +kernel
theorem dX8_receive_365 : decode cX8_receive 365 = .ok (.iload 4, 2) := by decide +kernel
theorem dX8_receive_367 : decode cX8_receive 367 = .ok (.aload_n 0, 1) := by decide +kernel
theorem dX8_receive_368 : decode cX8_receive 368 = .ok (.getfield 84, 3) := by decide +kernel
theorem dX8_receive_371 : decode cX8_receive 371 = .ok (.iload 7, 2) := by decide +kernel
theorem dX8_receive_373 : decode cX8_receive 373 = .ok (.iconst 1, 1) := by decide +kernel
theorem dX8_receive_374 : decode cX8_receive 374 = .ok (.isub, 1) := by decide +kernel
theorem dX8_receive_375 : decode cX8_receive 375 = .ok (.iaload, 1) := by decide +kernel
theorem dX8_receive_376 : decode cX8_receive 376 = .ok (.invokevirtual 282, 3) := by decide +kernel
theorem dX8_receive_379 : decode cX8_receive 379 = .ok (.ifCond .eq 25, 3) := by decide +kernel
theorem dX8_receive_382 : decode cX8_receive 382 = .ok (.aload_n 0, 1) := by decide +kernel
theorem dX8_receive_383 : decode cX8_receive 383 = .ok (.getfield 84, 3) := by decide +kernel
theorem dX8_receive_386 : decode cX8_receive 386 = .ok (.iload 7, 2) := by decide +kernel
theorem dX8_receive_388 : decode cX8_receive 388 = .ok (.aload_n 0, 1) := by decide +kernel
theorem dX8_receive_389 : decode cX8_receive 389 = .ok (.getfield 84, 3) := by decide +kernel
theorem dX8_receive_392 : decode cX8_receive 392 = .ok (.iload 7, 2) := by decide +kernel
theorem dX8_receive_394 : decode cX8_receive 394 = .ok (.iconst 1, 1) := by decide +kernel
theorem dX8_receive_395 : decode cX8_receive 395 = .ok (.isub, 1) := by decide +kernel
theorem dX8_receive_396 : decode cX8_receive 396 = .ok (.iaload, 1) := by decide +kernel
theorem dX8_receive_397 : decode cX8_receive 397 = .ok (.iastore, 1) := by decide +kernel
theorem dX8_receive_398 : decode cX8_receive 398 = .ok (.iinc 7 (-1), 3) := by decide +kernel
theorem dX8_receive_401 : decode cX8_receive 401 = .ok (.goto (-43), 3) := by decide +kernel
theorem dX8_receive_404 : decode cX8_receive 404 = .ok (.aload_n 0, 1) := by decide +kernel
theorem dX8_receive_405 : decode cX8_receive 405 = .ok (.getfield 84, 3) := by decide +kernel
theorem dX8_receive_408 : decode cX8_receive 408 = .ok (.iload 7, 2) := by decide +kernel
theorem dX8_receive_410 : decode cX8_receive 410 = .ok (.iload 4, 2) := by decide +kernel
theorem dX8_receive_412 : decode cX8_receive 412 = .ok (.iastore, 1) := by decide +kernel
theorem dX8_receive_413 : decode cX8_receive 413 = .ok (.iinc 4 1, 3) := by decide +kernel
theorem dX8_receive_416 : decode cX8_receive 416 = .ok (.goto (-317), 3) := by decide +kernel
theorem dX8_receive_419 : decode cX8_receive 419 = .ok (.return_, 1) := by decide +kernel
theorem dX8_comesBefore_0 : decode cX8_comesBefore 0 = .ok (.aload_n 0, 1) := by decide +kernel
theorem dX8_comesBefore_1 : decode cX8_comesBefore 1 = .ok (.getfield 93, 3) := by decide +kernel
theorem dX8_comesBefore_4 : decode cX8_comesBefore 4 = .ok (.iload_n 1, 1) := by decide +kernel
theorem dX8_comesBefore_5 : decode cX8_comesBefore 5 = .ok (.laload, 1) := by decide +kernel
theorem dX8_comesBefore_6 : decode cX8_comesBefore 6 = .ok (.aload_n 0, 1) := by decide +kernel
theorem dX8_comesBefore_7 : decode cX8_comesBefore 7 = .ok (.getfield 93, 3) := by decide +kernel
theorem dX8_comesBefore_10 : decode cX8_comesBefore 10 = .ok (.iload_n 2, 1) := by decide +kernel
theorem dX8_comesBefore_11 : decode cX8_comesBefore 11 = .ok (.laload, 1) := by decide +kernel
theorem dX8_comesBefore_12 : decode cX8_comesBefore 12 = .ok (.lcmp, 1) := by decide +kernel
theorem dX8_comesBefore_13 : decode cX8_comesBefore 13 = .ok (.ifCond .eq 25, 3) := by decide +kernel
theorem dX8_comesBefore_16 : decode cX8_comesBefore 16 = .ok (.aload_n 0, 1) := by decide +kernel
theorem dX8_comesBefore_17 : decode cX8_comesBefore 17 = .ok (.getfield 93, 3) := by decide +kernel
theorem dX8_comesBefore_20 : decode cX8_comesBefore 20 = .ok (.iload_n 1, 1) := by decide +kernel
theorem dX8_comesBefore_21 : decode cX8_comesBefore 21 = .ok (.laload, 1) := by decide +kernel
theorem dX8_comesBefore_22 : decode cX8_comesBefore 22 = .ok (.aload_n 0, 1) := by decide +kernel
theorem dX8_comesBefore_23 : decode cX8_comesBefore 23 = .ok (.getfield 93, 3) := by decide +kernel
theorem dX8_comesBefore_26 : decode cX8_comesBefore 26 = .ok (.iload_n 2, 1) := by decide +kernel
theorem dX8_comesBefore_27 : decode cX8_comesBefore 27 = .ok (.laload, 1) := by decide +kernel
theorem dX8_comesBefore_28 : decode cX8_comesBefore 28 = .ok (.lcmp, 1) := by decide +kernel
theorem dX8_comesBefore_29 : decode cX8_comesBefore 29 = .ok (.ifCond .ge 7, 3) := by decide +kernel
theorem dX8_comesBefore_32 : decode cX8_comesBefore 32 = .ok (.iconst 1, 1) := by decide +kernel
theorem dX8_comesBefore_33 : decode cX8_comesBefore 33 = .ok (.goto 4, 3) := by decide +kernel
theorem dX8_comesBefore_36 : decode cX8_comesBefore 36 = .ok (.iconst 0, 1) := by decide +kernel
theorem dX8_comesBefore_37 : decode cX8_comesBefore 37 = .ok (.ireturn, 1) := by decide +kernel
theorem dX8_comesBefore_38 : decode cX8_comesBefore 38 = .ok (.iconst 0, 1) := by decide +kernel
theorem dX8_comesBefore_39 : decode cX8_comesBefore 39 = .ok (.istore_n 3, 1) := by decide +kernel
theorem dX8_comesBefore_40 : decode cX8_comesBefore 40 = .ok (.iload_n 3, 1) := by decide +kernel
theorem dX8_comesBefore_41 : decode cX8_comesBefore 41 = .ok (.bipush 8, 2) := by decide +kernel
theorem dX8_comesBefore_43 : decode cX8_comesBefore 43 = .ok (.if_icmp .ge 81, 3) := by decide +kernel
theorem dX8_comesBefore_46 : decode cX8_comesBefore 46 = .ok (.aload_n 0, 1) := by decide +kernel
theorem dX8_comesBefore_47 : decode cX8_comesBefore 47 = .ok (.getfield 31, 3) := by decide +kernel
theorem dX8_comesBefore_50 : decode cX8_comesBefore 50 = .ok (.bipush 8, 2) := by decide +kernel
theorem dX8_comesBefore_52 : decode cX8_comesBefore 52 = .ok (.iload_n 1, 1) := by decide +kernel
theorem dX8_comesBefore_53 : decode cX8_comesBefore 53 = .ok (.imul, 1) := by decide +kernel
theorem dX8_comesBefore_54 : decode cX8_comesBefore 54 = .ok (.iload_n 3, 1) := by decide +kernel
theorem dX8_comesBefore_55 : decode cX8_comesBefore 55 = .ok (.iadd, 1) := by decide +kernel
theorem dX8_comesBefore_56 : decode cX8_comesBefore 56 = .ok (.iaload, 1) := by decide +kernel
theorem dX8_comesBefore_57 : decode cX8_comesBefore 57 = .ok (.aload_n 0, 1) := by decide +kernel
theorem dX8_comesBefore_58 : decode cX8_comesBefore 58 = .ok (.getfield 90, 3) := by decide +kernel
theorem dX8_comesBefore_61 : decode cX8_comesBefore 61 = .ok (.iload_n 3, 1) := by decide +kernel
theorem dX8_comesBefore_62 : decode cX8_comesBefore 62 = .ok (.iaload, 1) := by decide +kernel
theorem dX8_comesBefore_63 : decode cX8_comesBefore 63 = .ok (.ixor, 1) := by decide +kernel
theorem dX8_comesBefore_64 : decode cX8_comesBefore 64 = .ok (.i2l, 1) := by decide +kernel
theorem dX8_comesBefore_65 : decode cX8_comesBefore 65 = .ok (.ldc2_w 285, 3) := by decide +kernel
theorem dX8_comesBefore_68 : decode cX8_comesBefore 68 = .ok (.land, 1) := by decide +kernel
theorem dX8_comesBefore_69 : decode cX8_comesBefore 69 = .ok (.lstore 4, 2) := by decide +kernel
theorem dX8_comesBefore_71 : decode cX8_comesBefore 71 = .ok (.aload_n 0, 1) := by decide +kernel
theorem dX8_comesBefore_72 : decode cX8_comesBefore 72 = .ok (.getfield 31, 3) := by decide +kernel
theorem dX8_comesBefore_75 : decode cX8_comesBefore 75 = .ok (.bipush 8, 2) := by decide +kernel
theorem dX8_comesBefore_77 : decode cX8_comesBefore 77 = .ok (.iload_n 2, 1) := by decide +kernel
theorem dX8_comesBefore_78 : decode cX8_comesBefore 78 = .ok (.imul, 1) := by decide +kernel
theorem dX8_comesBefore_79 : decode cX8_comesBefore 79 = .ok (.iload_n 3, 1) := by decide +kernel
theorem dX8_comesBefore_80 : decode cX8_comesBefore 80 = .ok (.iadd, 1) := by decide +kernel
theorem dX8_comesBefore_81 : decode cX8_comesBefore 81 = .ok (.iaload, 1) := by decide +kernel
theorem dX8_comesBefore_82 : decode cX8_comesBefore 82 = .ok (.aload_n 0, 1) := by decide +kernel
theorem dX8_comesBefore_83 : decode cX8_comesBefore 83 = .ok (.getfield 90, 3) := by decide +kernel
theorem dX8_comesBefore_86 : decode cX8_comesBefore 86 = .ok (.iload_n 3, 1) := by decide +kernel
theorem dX8_comesBefore_87 : decode cX8_comesBefore 87 = .ok (.iaload, 1) := by decide +kernel
theorem dX8_comesBefore_88 : decode cX8_comesBefore 88 = .ok (.ixor, 1) := by decide +kernel
theorem dX8_comesBefore_89 : decode cX8_comesBefore 89 = .ok (.i2l, 1) := by decide +kernel
theorem dX8_comesBefore_90 : decode cX8_comesBefore 90 = .ok (.ldc2_w 285, 3) := by decide +kernel
theorem dX8_comesBefore_93 : decode cX8_comesBefore 93 = .ok (.land, 1) := by decide +kernel
theorem dX8_comesBefore_94 : decode cX8_comesBefore 94 = .ok (.lstore 6, 2) := by decide +kernel
theorem dX8_comesBefore_96 : decode cX8_comesBefore 96 = .ok (.lload 4, 2) := by decide +kernel
theorem dX8_comesBefore_98 : decode cX8_comesBefore 98 = .ok (.lload 6, 2) := by decide +kernel
theorem dX8_comesBefore_100 : decode cX8_comesBefore 100 = .ok (.lcmp, 1) := by decide +kernel
theorem dX8_comesBefore_101 : decode cX8_comesBefore 101 = .ok (.ifCond .eq 17, 3) := by decide +kernel
theorem dX8_comesBefore_104 : decode cX8_comesBefore 104 = .ok (.lload 4, 2) := by decide +kernel
theorem dX8_comesBefore_106 : decode cX8_comesBefore 106 = .ok (.lload 6, 2) := by decide +kernel
theorem dX8_comesBefore_108 : decode cX8_comesBefore 108 = .ok (.lcmp, 1) := by decide +kernel
theorem dX8_comesBefore_109 : decode cX8_comesBefore 109 = .ok (.ifCond .ge 7, 3) := by decide +kernel
theorem dX8_comesBefore_112 : decode cX8_comesBefore 112 = .ok (.iconst 1, 1) := by decide +kernel
theorem dX8_comesBefore_113 : decode cX8_comesBefore 113 = .ok (.goto 4, 3) := by decide +kernel
theorem dX8_comesBefore_116 : decode cX8_comesBefore 116 = .ok (.iconst 0, 1) := by decide +kernel
theorem dX8_comesBefore_117 : decode cX8_comesBefore 117 = .ok (.ireturn, 1) := by decide +kernel
theorem dX8_comesBefore_118 : decode cX8_comesBefore 118 = .ok (.iinc 3 1, 3) := by decide +kernel
theorem dX8_comesBefore_121 : decode cX8_comesBefore 121 = .ok (.goto (-81), 3) := by decide +kernel
theorem dX8_comesBefore_124 : decode cX8_comesBefore 124 = .ok (.iload_n 1, 1) := by decide +kernel
theorem dX8_comesBefore_125 : decode cX8_comesBefore 125 = .ok (.iload_n 2, 1) := by decide +kernel
theorem dX8_comesBefore_126 : decode cX8_comesBefore 126 = .ok (.if_icmp .ge 7, 3) := by decide +kernel
theorem dX8_comesBefore_129 : decode cX8_comesBefore 129 = .ok (.iconst 1, 1) := by decide +kernel
theorem dX8_comesBefore_130 : decode cX8_comesBefore 130 = .ok (.goto 4, 3) := by decide +kernel
theorem dX8_comesBefore_133 : decode cX8_comesBefore 133 = .ok (.iconst 0, 1) := by decide +kernel
theorem dX8_comesBefore_134 : decode cX8_comesBefore 134 = .ok (.ireturn, 1) := by decide +kernel
theorem dX8_found_0 : decode cX8_found 0 = .ok (.aload_n 0, 1) := by decide +kernel
theorem dX8_found_1 : decode cX8_found 1 = .ok (.iconst 0, 1) := by decide +kernel
theorem dX8_found_2 : decode cX8_found 2 = .ok (.putfield 190, 3) := by decide +kernel
theorem dX8_found_5 : decode cX8_found 5 = .ok (.aload_n 0, 1) := by decide +kernel
theorem dX8_found_6 : decode cX8_found 6 = .ok (.aload_n 0, 1) := by decide +kernel
theorem dX8_found_7 : decode cX8_found 7 = .ok (.iload_n 1, 1) := by decide +kernel
theorem dX8_found_8 : decode cX8_found 8 = .ok (.invokevirtual 259, 3) := by decide +kernel
theorem dX8_found_11 : decode cX8_found 11 = .ok (.ifCond .eq 12, 3) := by decide +kernel
theorem dX8_found_14 : decode cX8_found 14 = .ok (.iload_n 3, 1) := by decide +kernel
theorem dX8_found_15 : decode cX8_found 15 = .ok (.iconst 0, 1) := by decide +kernel
theorem dX8_found_16 : decode cX8_found 16 = .ok (.iconst 3, 1) := by decide +kernel
theorem dX8_found_17 : decode cX8_found 17 = .ok (.invokestatic 196, 3) := by decide +kernel
theorem dX8_found_20 : decode cX8_found 20 = .ok (.ifCond .ne 7, 3) := by decide +kernel
theorem dX8_found_23 : decode cX8_found 23 = .ok (.iconst 1, 1) := by decide +kernel
theorem dX8_found_24 : decode cX8_found 24 = .ok (.goto 4, 3) := by decide +kernel
theorem dX8_found_27 : decode cX8_found 27 = .ok (.iconst 0, 1) := by decide +kernel
theorem dX8_found_28 : decode cX8_found 28 = .ok (.iconst 1, 1) := by decide +kernel
theorem dX8_found_29 : decode cX8_found 29 = .ok (.invokevirtual 203, 3) := by decide +kernel
theorem dX8_found_32 : decode cX8_found 32 = .ok (.ifCond .ne 24, 3) := by decide +kernel
theorem dX8_found_35 : decode cX8_found 35 = .ok (.aload_n 0, 1) := by decide +kernel
theorem dX8_found_36 : decode cX8_found 36 = .ok (.aload_n 0, 1) := by decide +kernel
theorem dX8_found_37 : decode cX8_found 37 = .ok (.iload_n 2, 1) := by decide +kernel
theorem dX8_found_38 : decode cX8_found 38 = .ok (.invokevirtual 263, 3) := by decide +kernel
theorem dX8_found_41 : decode cX8_found 41 = .ok (.ifCond .ne 7, 3) := by decide +kernel
theorem dX8_found_44 : decode cX8_found 44 = .ok (.iconst 1, 1) := by decide +kernel
theorem dX8_found_45 : decode cX8_found 45 = .ok (.goto 4, 3) := by decide +kernel
theorem dX8_found_48 : decode cX8_found 48 = .ok (.iconst 0, 1) := by decide +kernel
theorem dX8_found_49 : decode cX8_found 49 = .ok (.iconst 2, 1) := by decide +kernel
theorem dX8_found_50 : decode cX8_found 50 = .ok (.invokevirtual 203, 3) := by decide +kernel
theorem dX8_found_53 : decode cX8_found 53 = .ok (.ifCond .eq 5, 3) := by decide +kernel
theorem dX8_found_56 : decode cX8_found 56 = .ok (.iconst 0, 1) := by decide +kernel
theorem dX8_found_57 : decode cX8_found 57 = .ok (.ireturn, 1) := by decide +kernel
theorem dX8_found_58 : decode cX8_found 58 = .ok (.aload_n 0, 1) := by decide +kernel
theorem dX8_found_59 : decode cX8_found 59 = .ok (.getfield 55, 3) := by decide +kernel
theorem dX8_found_62 : decode cX8_found 62 = .ok (.sipush 240, 3) := by decide +kernel
theorem dX8_found_65 : decode cX8_found 65 = .ok (.iload_n 1, 1) := by decide +kernel
theorem dX8_found_66 : decode cX8_found 66 = .ok (.imul, 1) := by decide +kernel
theorem dX8_found_67 : decode cX8_found 67 = .ok (.iload_n 2, 1) := by decide +kernel
theorem dX8_found_68 : decode cX8_found 68 = .ok (.iadd, 1) := by decide +kernel
theorem dX8_found_69 : decode cX8_found 69 = .ok (.baload, 1) := by decide +kernel
theorem dX8_found_70 : decode cX8_found 70 = .ok (.istore 4, 2) := by decide +kernel
theorem dX8_found_72 : decode cX8_found 72 = .ok (.iload_n 3, 1) := by decide +kernel
theorem dX8_found_73 : decode cX8_found 73 = .ok (.ifCond .ne 14, 3) := by decide +kernel
theorem dX8_found_76 : decode cX8_found 76 = .ok (.iload 4, 2) := by decide +kernel
theorem dX8_found_78 : decode cX8_found 78 = .ok (.ifCond .eq 7, 3) := by decide +kernel
theorem dX8_found_81 : decode cX8_found 81 = .ok (.iconst 1, 1) := by decide +kernel
theorem dX8_found_82 : decode cX8_found 82 = .ok (.goto 4, 3) := by decide +kernel
theorem dX8_found_85 : decode cX8_found 85 = .ok (.iconst 0, 1) := by decide +kernel
theorem dX8_found_86 : decode cX8_found 86 = .ok (.ireturn, 1) := by decide +kernel
theorem dX8_found_87 : decode cX8_found 87 = .ok (.iload 4, 2) := by decide +kernel
theorem dX8_found_89 : decode cX8_found 89 = .ok (.ifCond .ne 14, 3) := by decide +kernel
theorem dX8_found_92 : decode cX8_found 92 = .ok (.iload_n 3, 1) := by decide +kernel
theorem dX8_found_93 : decode cX8_found 93 = .ok (.iconst 3, 1) := by decide +kernel
theorem dX8_found_94 : decode cX8_found 94 = .ok (.if_icmp .ne 7, 3) := by decide +kernel
theorem dX8_found_97 : decode cX8_found 97 = .ok (.iconst (-1), 1) := by decide +kernel
theorem dX8_found_98 : decode cX8_found 98 = .ok (.goto 4, 3) := by decide +kernel
theorem dX8_found_101 : decode cX8_found 101 = .ok (.iconst 0, 1) := by decide +kernel
theorem dX8_found_102 : decode cX8_found 102 = .ok (.ireturn, 1) := by decide +kernel
theorem dX8_found_103 : decode cX8_found 103 = .ok (.aload_n 0, 1) := by decide +kernel
theorem dX8_found_104 : decode cX8_found 104 = .ok (.iload_n 1, 1) := by decide +kernel
theorem dX8_found_105 : decode cX8_found 105 = .ok (.invokevirtual 287, 3) := by decide +kernel
theorem dX8_found_108 : decode cX8_found 108 = .ok (.iload_n 3, 1) := by decide +kernel
theorem dX8_found_109 : decode cX8_found 109 = .ok (.iconst 1, 1) := by decide +kernel
theorem dX8_found_110 : decode cX8_found 110 = .ok (.if_icmp .ne 12, 3) := by decide +kernel
theorem dX8_found_113 : decode cX8_found 113 = .ok (.aload_n 0, 1) := by decide +kernel
theorem dX8_found_114 : decode cX8_found 114 = .ok (.getfield 75, 3) := by decide +kernel
theorem dX8_found_117 : decode cX8_found 117 = .ok (.iload_n 2, 1) := by decide +kernel
theorem dX8_found_118 : decode cX8_found 118 = .ok (.iaload, 1) := by decide +kernel
theorem dX8_found_119 : decode cX8_found 119 = .ok (.goto 23, 3) := by decide +kernel
theorem dX8_found_122 : decode cX8_found 122 = .ok (.iload_n 3, 1) := by decide +kernel
theorem dX8_found_123 : decode cX8_found 123 = .ok (.iconst 2, 1) := by decide +kernel
theorem dX8_found_124 : decode cX8_found 124 = .ok (.if_icmp .ne 12, 3) := by decide +kernel
theorem dX8_found_127 : decode cX8_found 127 = .ok (.aload_n 0, 1) := by decide +kernel
theorem dX8_found_128 : decode cX8_found 128 = .ok (.getfield 78, 3) := by decide +kernel
theorem dX8_found_131 : decode cX8_found 131 = .ok (.iload_n 2, 1) := by decide +kernel
theorem dX8_found_132 : decode cX8_found 132 = .ok (.iaload, 1) := by decide +kernel
theorem dX8_found_133 : decode cX8_found 133 = .ok (.goto 9, 3) := by decide +kernel
theorem dX8_found_136 : decode cX8_found 136 = .ok (.aload_n 0, 1) := by decide +kernel
theorem dX8_found_137 : decode cX8_found 137 = .ok (.getfield 81, 3) := by decide +kernel
theorem dX8_found_140 : decode cX8_found 140 = .ok (.iload_n 2, 1) := by decide +kernel
theorem dX8_found_141 : decode cX8_found 141 = .ok (.iaload, 1) := by decide +kernel
theorem dX8_found_142 : decode cX8_found 142 = .ok (.ireturn, 1) := by decide +kernel
theorem dX8_stamp_0 : decode cX8_stamp 0 = .ok (.aload_n 0, 1) := by decide +kernel
theorem dX8_stamp_1 : decode cX8_stamp 1 = .ok (.iconst 0, 1) := by decide +kernel
theorem dX8_stamp_2 : decode cX8_stamp 2 = .ok (.putfield 190, 3) := by decide +kernel
theorem dX8_stamp_5 : decode cX8_stamp 5 = .ok (.aload_n 0, 1) := by decide +kernel
theorem dX8_stamp_6 : decode cX8_stamp 6 = .ok (.aload_n 0, 1) := by decide +kernel
theorem dX8_stamp_7 : decode cX8_stamp 7 = .ok (.iload_n 1, 1) := by decide +kernel
theorem dX8_stamp_8 : decode cX8_stamp 8 = .ok (.invokevirtual 259, 3) := by decide +kernel
theorem dX8_stamp_11 : decode cX8_stamp 11 = .ok (.ifCond .ne 7, 3) := by decide +kernel
theorem dX8_stamp_14 : decode cX8_stamp 14 = .ok (.iconst 1, 1) := by decide +kernel
theorem dX8_stamp_15 : decode cX8_stamp 15 = .ok (.goto 4, 3) := by decide +kernel
theorem dX8_stamp_18 : decode cX8_stamp 18 = .ok (.iconst 0, 1) := by decide +kernel
theorem dX8_stamp_19 : decode cX8_stamp 19 = .ok (.iconst 1, 1) := by decide +kernel
theorem dX8_stamp_20 : decode cX8_stamp 20 = .ok (.invokevirtual 203, 3) := by decide +kernel
theorem dX8_stamp_23 : decode cX8_stamp 23 = .ok (.ifCond .ne 24, 3) := by decide +kernel
theorem dX8_stamp_26 : decode cX8_stamp 26 = .ok (.aload_n 0, 1) := by decide +kernel
theorem dX8_stamp_27 : decode cX8_stamp 27 = .ok (.aload_n 0, 1) := by decide +kernel
theorem dX8_stamp_28 : decode cX8_stamp 28 = .ok (.iload_n 2, 1) := by decide +kernel
theorem dX8_stamp_29 : decode cX8_stamp 29 = .ok (.invokevirtual 263, 3) := by decide +kernel
theorem dX8_stamp_32 : decode cX8_stamp 32 = .ok (.ifCond .ne 7, 3) := by decide +kernel
theorem dX8_stamp_35 : decode cX8_stamp 35 = .ok (.iconst 1, 1) := by decide +kernel
theorem dX8_stamp_36 : decode cX8_stamp 36 = .ok (.goto 4, 3) := by decide +kernel
theorem dX8_stamp_39 : decode cX8_stamp 39 = .ok (.iconst 0, 1) := by decide +kernel
theorem dX8_stamp_40 : decode cX8_stamp 40 = .ok (.iconst 2, 1) := by decide +kernel
theorem dX8_stamp_41 : decode cX8_stamp 41 = .ok (.invokevirtual 203, 3) := by decide +kernel
theorem dX8_stamp_44 : decode cX8_stamp 44 = .ok (.ifCond .eq 5, 3) := by decide +kernel
theorem dX8_stamp_47 : decode cX8_stamp 47 = .ok (.lconst 0, 1) := by decide +kernel
theorem dX8_stamp_48 : decode cX8_stamp 48 = .ok (.lreturn, 1) := by decide +kernel
theorem dX8_stamp_49 : decode cX8_stamp 49 = .ok (.aload_n 0, 1) := by decide +kernel
theorem dX8_stamp_50 : decode cX8_stamp 50 = .ok (.iload_n 1, 1) := by decide +kernel
theorem dX8_stamp_51 : decode cX8_stamp 51 = .ok (.invokevirtual 287, 3) := by decide +kernel
theorem dX8_stamp_54 : decode cX8_stamp 54 = .ok (.aload_n 0, 1) := by decide +kernel
theorem dX8_stamp_55 : decode cX8_stamp 55 = .ok (.aload_n 0, 1) := by decide +kernel
theorem dX8_stamp_56 : decode cX8_stamp 56 = .ok (.getfield 55, 3) := by decide +kernel
theorem dX8_stamp_59 : decode cX8_stamp 59 = .ok (.sipush 240, 3) := by decide +kernel
theorem dX8_stamp_62 : decode cX8_stamp 62 = .ok (.iload_n 1, 1) := by decide +kernel
theorem dX8_stamp_63 : decode cX8_stamp 63 = .ok (.imul, 1) := by decide +kernel
theorem dX8_stamp_64 : decode cX8_stamp 64 = .ok (.iload_n 2, 1) := by decide +kernel
theorem dX8_stamp_65 : decode cX8_stamp 65 = .ok (.iadd, 1) := by decide +kernel
theorem dX8_stamp_66 : decode cX8_stamp 66 = .ok (.baload, 1) := by decide +kernel
theorem dX8_stamp_67 : decode cX8_stamp 67 = .ok (.ifCond .eq 12, 3) := by decide +kernel
theorem dX8_stamp_70 : decode cX8_stamp 70 = .ok (.aload_n 0, 1) := by decide +kernel
theorem dX8_stamp_71 : decode cX8_stamp 71 = .ok (.getfield 78, 3) := by decide +kernel
theorem dX8_stamp_74 : decode cX8_stamp 74 = .ok (.iload_n 2, 1) := by decide +kernel
theorem dX8_stamp_75 : decode cX8_stamp 75 = .ok (.iaload, 1) := by decide +kernel
theorem dX8_stamp_76 : decode cX8_stamp 76 = .ok (.ifCond .ne 7, 3) := by decide +kernel
theorem dX8_stamp_79 : decode cX8_stamp 79 = .ok (.iconst 1, 1) := by decide +kernel
theorem dX8_stamp_80 : decode cX8_stamp 80 = .ok (.goto 4, 3) := by decide +kernel
theorem dX8_stamp_83 : decode cX8_stamp 83 = .ok (.iconst 0, 1) := by decide +kernel
theorem dX8_stamp_84 : decode cX8_stamp 84 = .ok (.iconst 3, 1) := by decide +kernel
theorem dX8_stamp_85 : decode cX8_stamp 85 = .ok (.invokevirtual 203, 3) := by decide +kernel
theorem dX8_stamp_88 : decode cX8_stamp 88 = .ok (.ifCond .eq 7, 3) := by decide +kernel
theorem dX8_stamp_91 : decode cX8_stamp 91 = .ok (.lconst 0, 1) := by decide +kernel
theorem dX8_stamp_92 : decode cX8_stamp 92 = .ok (.goto 9, 3) := by decide +kernel
theorem dX8_stamp_95 : decode cX8_stamp 95 = .ok (.aload_n 0, 1) := by decide +kernel
theorem dX8_stamp_96 : decode cX8_stamp 96 = .ok (.getfield 93, 3) := by decide +kernel
theorem dX8_stamp_99 : decode cX8_stamp 99 = .ok (.iload_n 2, 1) := by decide +kernel
theorem dX8_stamp_100 : decode cX8_stamp 100 = .ok (.laload, 1) := by decide +kernel
theorem dX8_stamp_101 : decode cX8_stamp 101 = .ok (.lreturn, 1) := by decide +kernel
theorem dX8_order_0 : decode cX8_order 0 = .ok (.aload_n 0, 1) := by decide +kernel
theorem dX8_order_1 : decode cX8_order 1 = .ok (.iconst 0, 1) := by decide +kernel
theorem dX8_order_2 : decode cX8_order 2 = .ok (.putfield 190, 3) := by decide +kernel
theorem dX8_order_5 : decode cX8_order 5 = .ok (.aload_n 0, 1) := by decide +kernel
theorem dX8_order_6 : decode cX8_order 6 = .ok (.aload_n 0, 1) := by decide +kernel
theorem dX8_order_7 : decode cX8_order 7 = .ok (.iload_n 1, 1) := by decide +kernel
theorem dX8_order_8 : decode cX8_order 8 = .ok (.invokevirtual 259, 3) := by decide +kernel
theorem dX8_order_11 : decode cX8_order 11 = .ok (.ifCond .ne 7, 3) := by decide +kernel
theorem dX8_order_14 : decode cX8_order 14 = .ok (.iconst 1, 1) := by decide +kernel
theorem dX8_order_15 : decode cX8_order 15 = .ok (.goto 4, 3) := by decide +kernel
theorem dX8_order_18 : decode cX8_order 18 = .ok (.iconst 0, 1) := by decide +kernel
theorem dX8_order_19 : decode cX8_order 19 = .ok (.iconst 1, 1) := by decide +kernel
theorem dX8_order_20 : decode cX8_order 20 = .ok (.invokevirtual 203, 3) := by decide +kernel
theorem dX8_order_23 : decode cX8_order 23 = .ok (.ifCond .eq 5, 3) := by decide +kernel
theorem dX8_order_26 : decode cX8_order 26 = .ok (.iconst 0, 1) := by decide +kernel
theorem dX8_order_27 : decode cX8_order 27 = .ok (.ireturn, 1) := by decide +kernel
theorem dX8_order_28 : decode cX8_order 28 = .ok (.aload_n 0, 1) := by decide +kernel
theorem dX8_order_29 : decode cX8_order 29 = .ok (.iload_n 1, 1) := by decide +kernel
theorem dX8_order_30 : decode cX8_order 30 = .ok (.invokevirtual 287, 3) := by decide +kernel
theorem dX8_order_33 : decode cX8_order 33 = .ok (.aload_n 0, 1) := by decide +kernel
theorem dX8_order_34 : decode cX8_order 34 = .ok (.getfield 269, 3) := by decide +kernel
theorem dX8_order_37 : decode cX8_order 37 = .ok (.ireturn, 1) := by decide +kernel
theorem dX8_at_0 : decode cX8_at 0 = .ok (.aload_n 0, 1) := by decide +kernel
theorem dX8_at_1 : decode cX8_at 1 = .ok (.iconst 0, 1) := by decide +kernel
theorem dX8_at_2 : decode cX8_at 2 = .ok (.putfield 190, 3) := by decide +kernel
theorem dX8_at_5 : decode cX8_at 5 = .ok (.aload_n 0, 1) := by decide +kernel
theorem dX8_at_6 : decode cX8_at 6 = .ok (.aload_n 0, 1) := by decide +kernel
theorem dX8_at_7 : decode cX8_at 7 = .ok (.iload_n 1, 1) := by decide +kernel
theorem dX8_at_8 : decode cX8_at 8 = .ok (.invokevirtual 259, 3) := by decide +kernel
theorem dX8_at_11 : decode cX8_at 11 = .ok (.ifCond .ne 7, 3) := by decide +kernel
theorem dX8_at_14 : decode cX8_at 14 = .ok (.iconst 1, 1) := by decide +kernel
theorem dX8_at_15 : decode cX8_at 15 = .ok (.goto 4, 3) := by decide +kernel
theorem dX8_at_18 : decode cX8_at 18 = .ok (.iconst 0, 1) := by decide +kernel
theorem dX8_at_19 : decode cX8_at 19 = .ok (.iconst 1, 1) := by decide +kernel
theorem dX8_at_20 : decode cX8_at 20 = .ok (.invokevirtual 203, 3) := by decide +kernel
theorem dX8_at_23 : decode cX8_at 23 = .ok (.ifCond .eq 5, 3) := by decide +kernel
theorem dX8_at_26 : decode cX8_at 26 = .ok (.iconst 0, 1) := by decide +kernel
theorem dX8_at_27 : decode cX8_at 27 = .ok (.ireturn, 1) := by decide +kernel
theorem dX8_at_28 : decode cX8_at 28 = .ok (.aload_n 0, 1) := by decide +kernel
theorem dX8_at_29 : decode cX8_at 29 = .ok (.iload_n 1, 1) := by decide +kernel
theorem dX8_at_30 : decode cX8_at 30 = .ok (.invokevirtual 287, 3) := by decide +kernel
theorem dX8_at_33 : decode cX8_at 33 = .ok (.aload_n 0, 1) := by decide +kernel
theorem dX8_at_34 : decode cX8_at 34 = .ok (.iload_n 2, 1) := by decide +kernel
theorem dX8_at_35 : decode cX8_at 35 = .ok (.iconst 0, 1) := by decide +kernel
theorem dX8_at_36 : decode cX8_at 36 = .ok (.aload_n 0, 1) := by decide +kernel
theorem dX8_at_37 : decode cX8_at 37 = .ok (.getfield 269, 3) := by decide +kernel
theorem dX8_at_40 : decode cX8_at 40 = .ok (.iconst 1, 1) := by decide +kernel
theorem dX8_at_41 : decode cX8_at 41 = .ok (.isub, 1) := by decide +kernel
theorem dX8_at_42 : decode cX8_at 42 = .ok (.invokestatic 196, 3) := by decide +kernel
theorem dX8_at_45 : decode cX8_at 45 = .ok (.ifCond .ne 7, 3) := by decide +kernel
theorem dX8_at_48 : decode cX8_at 48 = .ok (.iconst 1, 1) := by decide +kernel
theorem dX8_at_49 : decode cX8_at 49 = .ok (.goto 4, 3) := by decide +kernel
theorem dX8_at_52 : decode cX8_at 52 = .ok (.iconst 0, 1) := by decide +kernel
theorem dX8_at_53 : decode cX8_at 53 = .ok (.iconst 2, 1) := by decide +kernel
theorem dX8_at_54 : decode cX8_at 54 = .ok (.invokevirtual 203, 3) := by decide +kernel
theorem dX8_at_57 : decode cX8_at 57 = .ok (.ifCond .eq 7, 3) := by decide +kernel
theorem dX8_at_60 : decode cX8_at 60 = .ok (.iconst 0, 1) := by decide +kernel
theorem dX8_at_61 : decode cX8_at 61 = .ok (.goto 9, 3) := by decide +kernel
theorem dX8_at_64 : decode cX8_at 64 = .ok (.aload_n 0, 1) := by decide +kernel
theorem dX8_at_65 : decode cX8_at 65 = .ok (.getfield 84, 3) := by decide +kernel
theorem dX8_at_68 : decode cX8_at 68 = .ok (.iload_n 2, 1) := by decide +kernel
theorem dX8_at_69 : decode cX8_at 69 = .ok (.iaload, 1) := by decide +kernel
theorem dX8_at_70 : decode cX8_at 70 = .ok (.ireturn, 1) := by decide +kernel
theorem dX8_balance_0 : decode cX8_balance 0 = .ok (.aload_n 0, 1) := by decide +kernel
theorem dX8_balance_1 : decode cX8_balance 1 = .ok (.iconst 0, 1) := by decide +kernel
theorem dX8_balance_2 : decode cX8_balance 2 = .ok (.putfield 190, 3) := by decide +kernel
theorem dX8_balance_5 : decode cX8_balance 5 = .ok (.aload_n 0, 1) := by decide +kernel
theorem dX8_balance_6 : decode cX8_balance 6 = .ok (.aload_n 0, 1) := by decide +kernel
theorem dX8_balance_7 : decode cX8_balance 7 = .ok (.iload_n 1, 1) := by decide +kernel
theorem dX8_balance_8 : decode cX8_balance 8 = .ok (.invokevirtual 259, 3) := by decide +kernel
theorem dX8_balance_11 : decode cX8_balance 11 = .ok (.ifCond .eq 11, 3) := by decide +kernel
theorem dX8_balance_14 : decode cX8_balance 14 = .ok (.aload_n 0, 1) := by decide +kernel
theorem dX8_balance_15 : decode cX8_balance 15 = .ok (.iload_n 2, 1) := by decide +kernel
theorem dX8_balance_16 : decode cX8_balance 16 = .ok (.invokevirtual 259, 3) := by decide +kernel
theorem dX8_balance_19 : decode cX8_balance 19 = .ok (.ifCond .ne 7, 3) := by decide +kernel
theorem dX8_balance_22 : decode cX8_balance 22 = .ok (.iconst 1, 1) := by decide +kernel
theorem dX8_balance_23 : decode cX8_balance 23 = .ok (.goto 4, 3) := by decide +kernel
theorem dX8_balance_26 : decode cX8_balance 26 = .ok (.iconst 0, 1) := by decide +kernel
theorem dX8_balance_27 : decode cX8_balance 27 = .ok (.iconst 1, 1) := by decide +kernel
theorem dX8_balance_28 : decode cX8_balance 28 = .ok (.invokevirtual 203, 3) := by decide +kernel
theorem dX8_balance_31 : decode cX8_balance 31 = .ok (.ifCond .eq 5, 3) := by decide +kernel
theorem dX8_balance_34 : decode cX8_balance 34 = .ok (.iconst 0, 1) := by decide +kernel
theorem dX8_balance_35 : decode cX8_balance 35 = .ok (.ireturn, 1) := by decide +kernel
theorem dX8_balance_36 : decode cX8_balance 36 = .ok (.aload_n 0, 1) := by decide +kernel
theorem dX8_balance_37 : decode cX8_balance 37 = .ok (.iload_n 1, 1) := by decide +kernel
theorem dX8_balance_38 : decode cX8_balance 38 = .ok (.invokevirtual 287, 3) := by decide +kernel
theorem dX8_balance_41 : decode cX8_balance 41 = .ok (.aload_n 0, 1) := by decide +kernel
theorem dX8_balance_42 : decode cX8_balance 42 = .ok (.getfield 87, 3) := by decide +kernel
theorem dX8_balance_45 : decode cX8_balance 45 = .ok (.iload_n 2, 1) := by decide +kernel
theorem dX8_balance_46 : decode cX8_balance 46 = .ok (.iaload, 1) := by decide +kernel
theorem dX8_balance_47 : decode cX8_balance 47 = .ok (.ireturn, 1) := by decide +kernel
theorem dX8_count_0 : decode cX8_count 0 = .ok (.aload_n 0, 1) := by decide +kernel
theorem dX8_count_1 : decode cX8_count 1 = .ok (.iconst 0, 1) := by decide +kernel
theorem dX8_count_2 : decode cX8_count 2 = .ok (.putfield 190, 3) := by decide +kernel
theorem dX8_count_5 : decode cX8_count 5 = .ok (.aload_n 0, 1) := by decide +kernel
theorem dX8_count_6 : decode cX8_count 6 = .ok (.iload_n 1, 1) := by decide +kernel
theorem dX8_count_7 : decode cX8_count 7 = .ok (.iconst 0, 1) := by decide +kernel
theorem dX8_count_8 : decode cX8_count 8 = .ok (.iconst 5, 1) := by decide +kernel
theorem dX8_count_9 : decode cX8_count 9 = .ok (.invokestatic 196, 3) := by decide +kernel
theorem dX8_count_12 : decode cX8_count 12 = .ok (.ifCond .ne 7, 3) := by decide +kernel
theorem dX8_count_15 : decode cX8_count 15 = .ok (.iconst 1, 1) := by decide +kernel
theorem dX8_count_16 : decode cX8_count 16 = .ok (.goto 4, 3) := by decide +kernel
theorem dX8_count_19 : decode cX8_count 19 = .ok (.iconst 0, 1) := by decide +kernel
theorem dX8_count_20 : decode cX8_count 20 = .ok (.iconst 1, 1) := by decide +kernel
theorem dX8_count_21 : decode cX8_count 21 = .ok (.invokevirtual 203, 3) := by decide +kernel
theorem dX8_count_24 : decode cX8_count 24 = .ok (.ifCond .eq 5, 3) := by decide +kernel
theorem dX8_count_27 : decode cX8_count 27 = .ok (.iconst 0, 1) := by decide +kernel
theorem dX8_count_28 : decode cX8_count 28 = .ok (.ireturn, 1) := by decide +kernel
theorem dX8_count_29 : decode cX8_count 29 = .ok (.iconst 0, 1) := by decide +kernel
theorem dX8_count_30 : decode cX8_count 30 = .ok (.istore_n 2, 1) := by decide +kernel
theorem dX8_count_31 : decode cX8_count 31 = .ok (.iload_n 1, 1) := by decide +kernel
theorem dX8_count_32 : decode cX8_count 32 = .ok (.tableswitch 137 0 4 #[36, 41, 46, 81, 127], 36) := by decide +kernel
theorem dX8_count_68 : decode cX8_count 68 = .ok (.aload_n 0, 1) := by decide +kernel
theorem dX8_count_69 : decode cX8_count 69 = .ok (.getfield 193, 3) := by decide +kernel
theorem dX8_count_72 : decode cX8_count 72 = .ok (.ireturn, 1) := by decide +kernel
theorem dX8_count_73 : decode cX8_count 73 = .ok (.aload_n 0, 1) := by decide +kernel
theorem dX8_count_74 : decode cX8_count 74 = .ok (.getfield 200, 3) := by decide +kernel
theorem dX8_count_77 : decode cX8_count 77 = .ok (.ireturn, 1) := by decide +kernel
theorem dX8_count_78 : decode cX8_count 78 = .ok (.iconst 0, 1) := by decide +kernel
theorem dX8_count_79 : decode cX8_count 79 = .ok (.istore_n 3, 1) := by decide +kernel
theorem dX8_count_80 : decode cX8_count 80 = .ok (.iload_n 3, 1) := by decide +kernel
theorem dX8_count_81 : decode cX8_count 81 = .ok (.aload_n 0, 1) := by decide +kernel
theorem dX8_count_82 : decode cX8_count 82 = .ok (.getfield 200, 3) := by decide +kernel
theorem dX8_count_85 : decode cX8_count 85 = .ok (.if_icmp .ge 26, 3) := by decide +kernel
theorem dX8_count_88 : decode cX8_count 88 = .ok (.aload_n 0, 1) := by decide +kernel
theorem dX8_count_89 : decode cX8_count 89 = .ok (.getfield 28, 3) := by decide +kernel
theorem dX8_count_92 : decode cX8_count 92 = .ok (.iload_n 3, 1) := by decide +kernel
theorem dX8_count_93 : decode cX8_count 93 = .ok (.iaload, 1) := by decide +kernel
theorem dX8_count_94 : decode cX8_count 94 = .ok (.iload_n 2, 1) := by decide +kernel
theorem dX8_count_95 : decode cX8_count 95 = .ok (.if_icmp .le 10, 3) := by decide +kernel
theorem dX8_count_98 : decode cX8_count 98 = .ok (.aload_n 0, 1) := by decide +kernel
theorem dX8_count_99 : decode cX8_count 99 = .ok (.getfield 28, 3) := by decide +kernel
theorem dX8_count_102 : decode cX8_count 102 = .ok (.iload_n 3, 1) := by decide +kernel
theorem dX8_count_103 : decode cX8_count 103 = .ok (.iaload, 1) := by decide +kernel
theorem dX8_count_104 : decode cX8_count 104 = .ok (.istore_n 2, 1) := by decide +kernel
theorem dX8_count_105 : decode cX8_count 105 = .ok (.iinc 3 1, 3) := by decide +kernel
theorem dX8_count_108 : decode cX8_count 108 = .ok (.goto (-28), 3) := by decide +kernel
theorem dX8_count_111 : decode cX8_count 111 = .ok (.iload_n 2, 1) := by decide +kernel
theorem dX8_count_112 : decode cX8_count 112 = .ok (.ireturn, 1) := by decide +kernel
theorem dX8_count_113 : decode cX8_count 113 = .ok (.iconst 0, 1) := by decide +kernel
theorem dX8_count_114 : decode cX8_count 114 = .ok (.istore_n 3, 1) := by decide +kernel
theorem dX8_count_115 : decode cX8_count 115 = .ok (.iload_n 3, 1) := by decide +kernel
theorem dX8_count_116 : decode cX8_count 116 = .ok (.aload_n 0, 1) := by decide +kernel
theorem dX8_count_117 : decode cX8_count 117 = .ok (.getfield 200, 3) := by decide +kernel
theorem dX8_count_120 : decode cX8_count 120 = .ok (.if_icmp .ge 37, 3) := by decide +kernel
theorem dX8_count_123 : decode cX8_count 123 = .ok (.iconst 0, 1) := by decide +kernel
theorem dX8_count_124 : decode cX8_count 124 = .ok (.istore 4, 2) := by decide +kernel
theorem dX8_count_126 : decode cX8_count 126 = .ok (.iload 4, 2) := by decide +kernel
theorem dX8_count_128 : decode cX8_count 128 = .ok (.iload_n 3, 1) := by decide +kernel
theorem dX8_count_129 : decode cX8_count 129 = .ok (.if_icmp .ge 22, 3) := by decide +kernel
theorem dX8_count_132 : decode cX8_count 132 = .ok (.aload_n 0, 1) := by decide +kernel
theorem dX8_count_133 : decode cX8_count 133 = .ok (.iload_n 3, 1) := by decide +kernel
theorem dX8_count_134 : decode cX8_count 134 = .ok (.iload 4, 2) := by decide +kernel
theorem dX8_count_136 : decode cX8_count 136 = .ok (.invokevirtual 234, 3) := by decide +kernel
theorem dX8_count_139 : decode cX8_count 139 = .ok (.ifCond .eq 6, 3) := by decide +kernel
theorem dX8_count_142 : decode cX8_count 142 = .ok (.iinc 2 1, 3) := by decide +kernel
theorem dX8_count_145 : decode cX8_count 145 = .ok (.iinc 4 1, 3) := by decide +kernel
theorem dX8_count_148 : decode cX8_count 148 = .ok (.goto (-22), 3) := by decide +kernel
theorem dX8_count_151 : decode cX8_count 151 = .ok (.iinc 3 1, 3) := by decide +kernel
theorem dX8_count_154 : decode cX8_count 154 = .ok (.goto (-39), 3) := by decide +kernel
theorem dX8_count_157 : decode cX8_count 157 = .ok (.iload_n 2, 1) := by decide +kernel
theorem dX8_count_158 : decode cX8_count 158 = .ok (.ireturn, 1) := by decide +kernel
theorem dX8_count_159 : decode cX8_count 159 = .ok (.aload_n 0, 1) := by decide +kernel
theorem dX8_count_160 : decode cX8_count 160 = .ok (.iconst 0, 1) := by decide +kernel
theorem dX8_count_161 : decode cX8_count 161 = .ok (.invokevirtual 287, 3) := by decide +kernel
theorem dX8_count_164 : decode cX8_count 164 = .ok (.aload_n 0, 1) := by decide +kernel
theorem dX8_count_165 : decode cX8_count 165 = .ok (.getfield 272, 3) := by decide +kernel
theorem dX8_count_168 : decode cX8_count 168 = .ok (.ireturn, 1) := by decide +kernel
theorem dX8_count_169 : decode cX8_count 169 = .ok (.iconst 0, 1) := by decide +kernel
theorem dX8_count_170 : decode cX8_count 170 = .ok (.istore_n 3, 1) := by decide +kernel
theorem dX8_count_171 : decode cX8_count 171 = .ok (.iload_n 3, 1) := by decide +kernel
theorem dX8_count_172 : decode cX8_count 172 = .ok (.aload_n 0, 1) := by decide +kernel
theorem dX8_count_173 : decode cX8_count 173 = .ok (.getfield 193, 3) := by decide +kernel
theorem dX8_count_176 : decode cX8_count 176 = .ok (.if_icmp .ge 18, 3) := by decide +kernel
theorem dX8_count_179 : decode cX8_count 179 = .ok (.iload_n 2, 1) := by decide +kernel
theorem dX8_count_180 : decode cX8_count 180 = .ok (.aload_n 0, 1) := by decide +kernel
theorem dX8_count_181 : decode cX8_count 181 = .ok (.getfield 37, 3) := by decide +kernel
theorem dX8_count_184 : decode cX8_count 184 = .ok (.iload_n 3, 1) := by decide +kernel
theorem dX8_count_185 : decode cX8_count 185 = .ok (.iaload, 1) := by decide +kernel
theorem dX8_count_186 : decode cX8_count 186 = .ok (.iadd, 1) := by decide +kernel
theorem dX8_count_187 : decode cX8_count 187 = .ok (.istore_n 2, 1) := by decide +kernel
theorem dX8_count_188 : decode cX8_count 188 = .ok (.iinc 3 1, 3) := by decide +kernel
theorem dX8_count_191 : decode cX8_count 191 = .ok (.goto (-20), 3) := by decide +kernel
theorem dX8_count_194 : decode cX8_count 194 = .ok (.iload_n 2, 1) := by decide +kernel
theorem dX8_count_195 : decode cX8_count 195 = .ok (.ireturn, 1) := by decide +kernel
