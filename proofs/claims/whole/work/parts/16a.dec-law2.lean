theorem d_LW_law_0 : decode code 0 = .ok (.new 8, 3) := by decide +kernel
theorem d_LW_law_3 : decode code 3 = .ok (.dup, 1) := by decide +kernel
theorem d_LW_law_4 : decode code 4 = .ok (.aload_n 0, 1) := by decide +kernel
theorem d_LW_law_5 : decode code 5 = .ok (.iconst 0, 1) := by decide +kernel
theorem d_LW_law_6 : decode code 6 = .ok (.invokestatic 58, 3) := by decide +kernel
theorem d_LW_law_9 : decode code 9 = .ok (.aload_n 0, 1) := by decide +kernel
theorem d_LW_law_10 : decode code 10 = .ok (.iconst 1, 1) := by decide +kernel
theorem d_LW_law_11 : decode code 11 = .ok (.invokestatic 58, 3) := by decide +kernel
theorem d_LW_law_14 : decode code 14 = .ok (.invokespecial 64, 3) := by decide +kernel
theorem d_LW_law_17 : decode code 17 = .ok (.astore_n 1, 1) := by decide +kernel
theorem d_LW_law_18 : decode code 18 = .ok (.new 67, 3) := by decide +kernel
theorem d_LW_law_21 : decode code 21 = .ok (.dup, 1) := by decide +kernel
theorem d_LW_law_22 : decode code 22 = .ok (.aload_n 0, 1) := by decide +kernel
theorem d_LW_law_23 : decode code 23 = .ok (.iconst 0, 1) := by decide +kernel
theorem d_LW_law_24 : decode code 24 = .ok (.invokestatic 58, 3) := by decide +kernel
theorem d_LW_law_27 : decode code 27 = .ok (.aload_n 0, 1) := by decide +kernel
theorem d_LW_law_28 : decode code 28 = .ok (.iconst 1, 1) := by decide +kernel
theorem d_LW_law_29 : decode code 29 = .ok (.invokestatic 58, 3) := by decide +kernel
theorem d_LW_law_32 : decode code 32 = .ok (.invokespecial 69, 3) := by decide +kernel
theorem d_LW_law_35 : decode code 35 = .ok (.astore_n 2, 1) := by decide +kernel
theorem d_LW_law_36 : decode code 36 = .ok (.iconst 1, 1) := by decide +kernel
theorem d_LW_law_37 : decode code 37 = .ok (.newarray .long, 2) := by decide +kernel
theorem d_LW_law_39 : decode code 39 = .ok (.astore_n 3, 1) := by decide +kernel
theorem d_LW_law_40 : decode code 40 = .ok (.iconst 2, 1) := by decide +kernel
theorem d_LW_law_41 : decode code 41 = .ok (.istore 4, 2) := by decide +kernel
theorem d_LW_law_43 : decode code 43 = .ok (.iload 4, 2) := by decide +kernel
theorem d_LW_law_45 : decode code 45 = .ok (.aload_n 0, 1) := by decide +kernel
theorem d_LW_law_46 : decode code 46 = .ok (.arraylength, 1) := by decide +kernel
theorem d_LW_law_47 : decode code 47 = .ok (.iconst 4, 1) := by decide +kernel
theorem d_LW_law_48 : decode code 48 = .ok (.isub, 1) := by decide +kernel
theorem d_LW_law_49 : decode code 49 = .ok (.if_icmp .gt 963, 3) := by decide +kernel
theorem d_LW_law_52 : decode code 52 = .ok (.aload_n 0, 1) := by decide +kernel
theorem d_LW_law_53 : decode code 53 = .ok (.iload 4, 2) := by decide +kernel
theorem d_LW_law_55 : decode code 55 = .ok (.iaload, 1) := by decide +kernel
theorem d_LW_law_56 : decode code 56 = .ok (.bipush 15, 2) := by decide +kernel
theorem d_LW_law_58 : decode code 58 = .ok (.iand, 1) := by decide +kernel
theorem d_LW_law_59 : decode code 59 = .ok (.tableswitch 947 0 14 #[73, 117, 161, 264, 320, 423, 479, 535, 548, 616, 703, 778, 791, 835, 891], 73) := by decide +kernel
theorem d_LW_law_132 : decode code 132 = .ok (.aload_n 1, 1) := by decide +kernel
theorem d_LW_law_133 : decode code 133 = .ok (.aload_n 3, 1) := by decide +kernel
theorem d_LW_law_134 : decode code 134 = .ok (.invokestatic 70, 3) := by decide +kernel
theorem d_LW_law_137 : decode code 137 = .ok (.istore 5, 2) := by decide +kernel
theorem d_LW_law_139 : decode code 139 = .ok (.aload_n 2, 1) := by decide +kernel
theorem d_LW_law_140 : decode code 140 = .ok (.invokevirtual 73, 3) := by decide +kernel
theorem d_LW_law_143 : decode code 143 = .ok (.istore 6, 2) := by decide +kernel
theorem d_LW_law_145 : decode code 145 = .ok (.aload_n 2, 1) := by decide +kernel
theorem d_LW_law_146 : decode code 146 = .ok (.invokevirtual 74, 3) := by decide +kernel
theorem d_LW_law_149 : decode code 149 = .ok (.iload 5, 2) := by decide +kernel
theorem d_LW_law_151 : decode code 151 = .ok (.if_icmp .eq 5, 3) := by decide +kernel
theorem d_LW_law_154 : decode code 154 = .ok (.iconst 0, 1) := by decide +kernel
theorem d_LW_law_155 : decode code 155 = .ok (.ireturn, 1) := by decide +kernel
theorem d_LW_law_156 : decode code 156 = .ok (.iload 5, 2) := by decide +kernel
theorem d_LW_law_158 : decode code 158 = .ok (.ifCond .ne 15, 3) := by decide +kernel
theorem d_LW_law_161 : decode code 161 = .ok (.aload_n 3, 1) := by decide +kernel
theorem d_LW_law_162 : decode code 162 = .ok (.iconst 0, 1) := by decide +kernel
theorem d_LW_law_163 : decode code 163 = .ok (.laload, 1) := by decide +kernel
theorem d_LW_law_164 : decode code 164 = .ok (.iload 6, 2) := by decide +kernel
theorem d_LW_law_166 : decode code 166 = .ok (.i2l, 1) := by decide +kernel
theorem d_LW_law_167 : decode code 167 = .ok (.lcmp, 1) := by decide +kernel
theorem d_LW_law_168 : decode code 168 = .ok (.ifCond .eq 5, 3) := by decide +kernel
theorem d_LW_law_171 : decode code 171 = .ok (.iconst 0, 1) := by decide +kernel
theorem d_LW_law_172 : decode code 172 = .ok (.ireturn, 1) := by decide +kernel
theorem d_LW_law_173 : decode code 173 = .ok (.goto 833, 3) := by decide +kernel
theorem d_LW_law_176 : decode code 176 = .ok (.aload_n 1, 1) := by decide +kernel
theorem d_LW_law_177 : decode code 177 = .ok (.aload_n 3, 1) := by decide +kernel
theorem d_LW_law_178 : decode code 178 = .ok (.invokestatic 77, 3) := by decide +kernel
theorem d_LW_law_181 : decode code 181 = .ok (.istore 5, 2) := by decide +kernel
theorem d_LW_law_183 : decode code 183 = .ok (.aload_n 2, 1) := by decide +kernel
theorem d_LW_law_184 : decode code 184 = .ok (.invokevirtual 79, 3) := by decide +kernel
theorem d_LW_law_187 : decode code 187 = .ok (.istore 6, 2) := by decide +kernel
theorem d_LW_law_189 : decode code 189 = .ok (.aload_n 2, 1) := by decide +kernel
theorem d_LW_law_190 : decode code 190 = .ok (.invokevirtual 74, 3) := by decide +kernel
theorem d_LW_law_193 : decode code 193 = .ok (.iload 5, 2) := by decide +kernel
theorem d_LW_law_195 : decode code 195 = .ok (.if_icmp .eq 5, 3) := by decide +kernel
theorem d_LW_law_198 : decode code 198 = .ok (.iconst 0, 1) := by decide +kernel
theorem d_LW_law_199 : decode code 199 = .ok (.ireturn, 1) := by decide +kernel
theorem d_LW_law_200 : decode code 200 = .ok (.iload 5, 2) := by decide +kernel
theorem d_LW_law_202 : decode code 202 = .ok (.ifCond .ne 15, 3) := by decide +kernel
theorem d_LW_law_205 : decode code 205 = .ok (.aload_n 3, 1) := by decide +kernel
theorem d_LW_law_206 : decode code 206 = .ok (.iconst 0, 1) := by decide +kernel
theorem d_LW_law_207 : decode code 207 = .ok (.laload, 1) := by decide +kernel
theorem d_LW_law_208 : decode code 208 = .ok (.iload 6, 2) := by decide +kernel
theorem d_LW_law_210 : decode code 210 = .ok (.i2l, 1) := by decide +kernel
theorem d_LW_law_211 : decode code 211 = .ok (.lcmp, 1) := by decide +kernel
theorem d_LW_law_212 : decode code 212 = .ok (.ifCond .eq 5, 3) := by decide +kernel
theorem d_LW_law_215 : decode code 215 = .ok (.iconst 0, 1) := by decide +kernel
theorem d_LW_law_216 : decode code 216 = .ok (.ireturn, 1) := by decide +kernel
theorem d_LW_law_217 : decode code 217 = .ok (.goto 789, 3) := by decide +kernel
theorem d_LW_law_220 : decode code 220 = .ok (.aload_n 1, 1) := by decide +kernel
theorem d_LW_law_221 : decode code 221 = .ok (.aload_n 0, 1) := by decide +kernel
theorem d_LW_law_222 : decode code 222 = .ok (.iload 4, 2) := by decide +kernel
theorem d_LW_law_224 : decode code 224 = .ok (.iconst 1, 1) := by decide +kernel
theorem d_LW_law_225 : decode code 225 = .ok (.iadd, 1) := by decide +kernel
theorem d_LW_law_226 : decode code 226 = .ok (.iaload, 1) := by decide +kernel
theorem d_LW_law_227 : decode code 227 = .ok (.aload_n 0, 1) := by decide +kernel
theorem d_LW_law_228 : decode code 228 = .ok (.iload 4, 2) := by decide +kernel
theorem d_LW_law_230 : decode code 230 = .ok (.iconst 2, 1) := by decide +kernel
theorem d_LW_law_231 : decode code 231 = .ok (.iadd, 1) := by decide +kernel
theorem d_LW_law_232 : decode code 232 = .ok (.iaload, 1) := by decide +kernel
theorem d_LW_law_233 : decode code 233 = .ok (.aload_n 0, 1) := by decide +kernel
theorem d_LW_law_234 : decode code 234 = .ok (.iload 4, 2) := by decide +kernel
theorem d_LW_law_236 : decode code 236 = .ok (.iconst 3, 1) := by decide +kernel
theorem d_LW_law_237 : decode code 237 = .ok (.iadd, 1) := by decide +kernel
theorem d_LW_law_238 : decode code 238 = .ok (.iaload, 1) := by decide +kernel
theorem d_LW_law_239 : decode code 239 = .ok (.ifCond .eq 7, 3) := by decide +kernel
theorem d_LW_law_242 : decode code 242 = .ok (.iconst 1, 1) := by decide +kernel
theorem d_LW_law_243 : decode code 243 = .ok (.goto 4, 3) := by decide +kernel
theorem d_LW_law_246 : decode code 246 = .ok (.iconst 0, 1) := by decide +kernel
theorem d_LW_law_247 : decode code 247 = .ok (.aload_n 3, 1) := by decide +kernel
theorem d_LW_law_248 : decode code 248 = .ok (.invokestatic 80, 3) := by decide +kernel
theorem d_LW_law_251 : decode code 251 = .ok (.istore 5, 2) := by decide +kernel
theorem d_LW_law_253 : decode code 253 = .ok (.aload_n 2, 1) := by decide +kernel
theorem d_LW_law_254 : decode code 254 = .ok (.aload_n 0, 1) := by decide +kernel
theorem d_LW_law_255 : decode code 255 = .ok (.iload 4, 2) := by decide +kernel
theorem d_LW_law_257 : decode code 257 = .ok (.iconst 1, 1) := by decide +kernel
theorem d_LW_law_258 : decode code 258 = .ok (.iadd, 1) := by decide +kernel
theorem d_LW_law_259 : decode code 259 = .ok (.iaload, 1) := by decide +kernel
theorem d_LW_law_260 : decode code 260 = .ok (.aload_n 0, 1) := by decide +kernel
theorem d_LW_law_261 : decode code 261 = .ok (.iload 4, 2) := by decide +kernel
theorem d_LW_law_263 : decode code 263 = .ok (.iconst 2, 1) := by decide +kernel
theorem d_LW_law_264 : decode code 264 = .ok (.iadd, 1) := by decide +kernel
theorem d_LW_law_265 : decode code 265 = .ok (.iaload, 1) := by decide +kernel
theorem d_LW_law_266 : decode code 266 = .ok (.aload_n 0, 1) := by decide +kernel
theorem d_LW_law_267 : decode code 267 = .ok (.iload 4, 2) := by decide +kernel
theorem d_LW_law_269 : decode code 269 = .ok (.iconst 3, 1) := by decide +kernel
theorem d_LW_law_270 : decode code 270 = .ok (.iadd, 1) := by decide +kernel
theorem d_LW_law_271 : decode code 271 = .ok (.iaload, 1) := by decide +kernel
theorem d_LW_law_272 : decode code 272 = .ok (.ifCond .eq 7, 3) := by decide +kernel
theorem d_LW_law_275 : decode code 275 = .ok (.iconst 1, 1) := by decide +kernel
theorem d_LW_law_276 : decode code 276 = .ok (.goto 4, 3) := by decide +kernel
theorem d_LW_law_279 : decode code 279 = .ok (.iconst 0, 1) := by decide +kernel
theorem d_LW_law_280 : decode code 280 = .ok (.invokevirtual 83, 3) := by decide +kernel
theorem d_LW_law_283 : decode code 283 = .ok (.istore 6, 2) := by decide +kernel
theorem d_LW_law_285 : decode code 285 = .ok (.aload_n 2, 1) := by decide +kernel
theorem d_LW_law_286 : decode code 286 = .ok (.invokevirtual 74, 3) := by decide +kernel
theorem d_LW_law_289 : decode code 289 = .ok (.iload 5, 2) := by decide +kernel
theorem d_LW_law_291 : decode code 291 = .ok (.if_icmp .eq 5, 3) := by decide +kernel
theorem d_LW_law_294 : decode code 294 = .ok (.iconst 0, 1) := by decide +kernel
theorem d_LW_law_295 : decode code 295 = .ok (.ireturn, 1) := by decide +kernel
theorem d_LW_law_296 : decode code 296 = .ok (.iload 5, 2) := by decide +kernel
theorem d_LW_law_298 : decode code 298 = .ok (.ifCond .ne 22, 3) := by decide +kernel
theorem d_LW_law_301 : decode code 301 = .ok (.aload_n 3, 1) := by decide +kernel
theorem d_LW_law_302 : decode code 302 = .ok (.iconst 0, 1) := by decide +kernel
theorem d_LW_law_303 : decode code 303 = .ok (.laload, 1) := by decide +kernel
theorem d_LW_law_304 : decode code 304 = .ok (.iload 6, 2) := by decide +kernel
theorem d_LW_law_306 : decode code 306 = .ok (.ifCond .eq 7, 3) := by decide +kernel
theorem d_LW_law_309 : decode code 309 = .ok (.lconst 1, 1) := by decide +kernel
theorem d_LW_law_310 : decode code 310 = .ok (.goto 4, 3) := by decide +kernel
theorem d_LW_law_313 : decode code 313 = .ok (.lconst 0, 1) := by decide +kernel
theorem d_LW_law_314 : decode code 314 = .ok (.lcmp, 1) := by decide +kernel
theorem d_LW_law_315 : decode code 315 = .ok (.ifCond .eq 5, 3) := by decide +kernel
theorem d_LW_law_318 : decode code 318 = .ok (.iconst 0, 1) := by decide +kernel
theorem d_LW_law_319 : decode code 319 = .ok (.ireturn, 1) := by decide +kernel
theorem d_LW_law_320 : decode code 320 = .ok (.goto 686, 3) := by decide +kernel
theorem d_LW_law_323 : decode code 323 = .ok (.aload_n 1, 1) := by decide +kernel
theorem d_LW_law_324 : decode code 324 = .ok (.aload_n 0, 1) := by decide +kernel
theorem d_LW_law_325 : decode code 325 = .ok (.iload 4, 2) := by decide +kernel
theorem d_LW_law_327 : decode code 327 = .ok (.iconst 1, 1) := by decide +kernel
theorem d_LW_law_328 : decode code 328 = .ok (.iadd, 1) := by decide +kernel
theorem d_LW_law_329 : decode code 329 = .ok (.iaload, 1) := by decide +kernel
theorem d_LW_law_330 : decode code 330 = .ok (.aload_n 3, 1) := by decide +kernel
theorem d_LW_law_331 : decode code 331 = .ok (.invokestatic 84, 3) := by decide +kernel
theorem d_LW_law_334 : decode code 334 = .ok (.istore 5, 2) := by decide +kernel
theorem d_LW_law_336 : decode code 336 = .ok (.aload_n 2, 1) := by decide +kernel
theorem d_LW_law_337 : decode code 337 = .ok (.aload_n 0, 1) := by decide +kernel
theorem d_LW_law_338 : decode code 338 = .ok (.iload 4, 2) := by decide +kernel
theorem d_LW_law_340 : decode code 340 = .ok (.iconst 1, 1) := by decide +kernel
theorem d_LW_law_341 : decode code 341 = .ok (.iadd, 1) := by decide +kernel
theorem d_LW_law_342 : decode code 342 = .ok (.iaload, 1) := by decide +kernel
theorem d_LW_law_343 : decode code 343 = .ok (.invokevirtual 87, 3) := by decide +kernel
theorem d_LW_law_346 : decode code 346 = .ok (.istore 6, 2) := by decide +kernel
theorem d_LW_law_348 : decode code 348 = .ok (.aload_n 2, 1) := by decide +kernel
theorem d_LW_law_349 : decode code 349 = .ok (.invokevirtual 74, 3) := by decide +kernel
theorem d_LW_law_352 : decode code 352 = .ok (.iload 5, 2) := by decide +kernel
theorem d_LW_law_354 : decode code 354 = .ok (.if_icmp .eq 5, 3) := by decide +kernel
theorem d_LW_law_357 : decode code 357 = .ok (.iconst 0, 1) := by decide +kernel
theorem d_LW_law_358 : decode code 358 = .ok (.ireturn, 1) := by decide +kernel
theorem d_LW_law_359 : decode code 359 = .ok (.iload 5, 2) := by decide +kernel
theorem d_LW_law_361 : decode code 361 = .ok (.ifCond .ne 15, 3) := by decide +kernel
theorem d_LW_law_364 : decode code 364 = .ok (.aload_n 3, 1) := by decide +kernel
theorem d_LW_law_365 : decode code 365 = .ok (.iconst 0, 1) := by decide +kernel
theorem d_LW_law_366 : decode code 366 = .ok (.laload, 1) := by decide +kernel
theorem d_LW_law_367 : decode code 367 = .ok (.iload 6, 2) := by decide +kernel
theorem d_LW_law_369 : decode code 369 = .ok (.i2l, 1) := by decide +kernel
theorem d_LW_law_370 : decode code 370 = .ok (.lcmp, 1) := by decide +kernel
theorem d_LW_law_371 : decode code 371 = .ok (.ifCond .eq 5, 3) := by decide +kernel
theorem d_LW_law_374 : decode code 374 = .ok (.iconst 0, 1) := by decide +kernel
theorem d_LW_law_375 : decode code 375 = .ok (.ireturn, 1) := by decide +kernel
theorem d_LW_law_376 : decode code 376 = .ok (.goto 630, 3) := by decide +kernel
theorem d_LW_law_379 : decode code 379 = .ok (.aload_n 1, 1) := by decide +kernel
theorem d_LW_law_380 : decode code 380 = .ok (.aload_n 0, 1) := by decide +kernel
theorem d_LW_law_381 : decode code 381 = .ok (.iload 4, 2) := by decide +kernel
theorem d_LW_law_383 : decode code 383 = .ok (.iconst 1, 1) := by decide +kernel
theorem d_LW_law_384 : decode code 384 = .ok (.iadd, 1) := by decide +kernel
theorem d_LW_law_385 : decode code 385 = .ok (.iaload, 1) := by decide +kernel
theorem d_LW_law_386 : decode code 386 = .ok (.aload_n 0, 1) := by decide +kernel
theorem d_LW_law_387 : decode code 387 = .ok (.iload 4, 2) := by decide +kernel
theorem d_LW_law_389 : decode code 389 = .ok (.iconst 2, 1) := by decide +kernel
theorem d_LW_law_390 : decode code 390 = .ok (.iadd, 1) := by decide +kernel
theorem d_LW_law_391 : decode code 391 = .ok (.iaload, 1) := by decide +kernel
theorem d_LW_law_392 : decode code 392 = .ok (.aload_n 0, 1) := by decide +kernel
theorem d_LW_law_393 : decode code 393 = .ok (.iload 4, 2) := by decide +kernel
theorem d_LW_law_395 : decode code 395 = .ok (.iconst 3, 1) := by decide +kernel
theorem d_LW_law_396 : decode code 396 = .ok (.iadd, 1) := by decide +kernel
theorem d_LW_law_397 : decode code 397 = .ok (.iaload, 1) := by decide +kernel
theorem d_LW_law_398 : decode code 398 = .ok (.ifCond .eq 7, 3) := by decide +kernel
theorem d_LW_law_401 : decode code 401 = .ok (.iconst 1, 1) := by decide +kernel
theorem d_LW_law_402 : decode code 402 = .ok (.goto 4, 3) := by decide +kernel
theorem d_LW_law_405 : decode code 405 = .ok (.iconst 0, 1) := by decide +kernel
theorem d_LW_law_406 : decode code 406 = .ok (.aload_n 3, 1) := by decide +kernel
theorem d_LW_law_407 : decode code 407 = .ok (.invokestatic 88, 3) := by decide +kernel
theorem d_LW_law_410 : decode code 410 = .ok (.istore 5, 2) := by decide +kernel
theorem d_LW_law_412 : decode code 412 = .ok (.aload_n 2, 1) := by decide +kernel
theorem d_LW_law_413 : decode code 413 = .ok (.aload_n 0, 1) := by decide +kernel
theorem d_LW_law_414 : decode code 414 = .ok (.iload 4, 2) := by decide +kernel
theorem d_LW_law_416 : decode code 416 = .ok (.iconst 1, 1) := by decide +kernel
theorem d_LW_law_417 : decode code 417 = .ok (.iadd, 1) := by decide +kernel
theorem d_LW_law_418 : decode code 418 = .ok (.iaload, 1) := by decide +kernel
theorem d_LW_law_419 : decode code 419 = .ok (.aload_n 0, 1) := by decide +kernel
theorem d_LW_law_420 : decode code 420 = .ok (.iload 4, 2) := by decide +kernel
theorem d_LW_law_422 : decode code 422 = .ok (.iconst 2, 1) := by decide +kernel
theorem d_LW_law_423 : decode code 423 = .ok (.iadd, 1) := by decide +kernel
theorem d_LW_law_424 : decode code 424 = .ok (.iaload, 1) := by decide +kernel
theorem d_LW_law_425 : decode code 425 = .ok (.aload_n 0, 1) := by decide +kernel
theorem d_LW_law_426 : decode code 426 = .ok (.iload 4, 2) := by decide +kernel
theorem d_LW_law_428 : decode code 428 = .ok (.iconst 3, 1) := by decide +kernel
theorem d_LW_law_429 : decode code 429 = .ok (.iadd, 1) := by decide +kernel
theorem d_LW_law_430 : decode code 430 = .ok (.iaload, 1) := by decide +kernel
theorem d_LW_law_431 : decode code 431 = .ok (.ifCond .eq 7, 3) := by decide +kernel
theorem d_LW_law_434 : decode code 434 = .ok (.iconst 1, 1) := by decide +kernel
theorem d_LW_law_435 : decode code 435 = .ok (.goto 4, 3) := by decide +kernel
theorem d_LW_law_438 : decode code 438 = .ok (.iconst 0, 1) := by decide +kernel
theorem d_LW_law_439 : decode code 439 = .ok (.invokevirtual 90, 3) := by decide +kernel
theorem d_LW_law_442 : decode code 442 = .ok (.istore 6, 2) := by decide +kernel
theorem d_LW_law_444 : decode code 444 = .ok (.aload_n 2, 1) := by decide +kernel
theorem d_LW_law_445 : decode code 445 = .ok (.invokevirtual 74, 3) := by decide +kernel
theorem d_LW_law_448 : decode code 448 = .ok (.iload 5, 2) := by decide +kernel
theorem d_LW_law_450 : decode code 450 = .ok (.if_icmp .eq 5, 3) := by decide +kernel
theorem d_LW_law_453 : decode code 453 = .ok (.iconst 0, 1) := by decide +kernel
theorem d_LW_law_454 : decode code 454 = .ok (.ireturn, 1) := by decide +kernel
theorem d_LW_law_455 : decode code 455 = .ok (.iload 5, 2) := by decide +kernel
theorem d_LW_law_457 : decode code 457 = .ok (.ifCond .ne 22, 3) := by decide +kernel
theorem d_LW_law_460 : decode code 460 = .ok (.aload_n 3, 1) := by decide +kernel
theorem d_LW_law_461 : decode code 461 = .ok (.iconst 0, 1) := by decide +kernel
theorem d_LW_law_462 : decode code 462 = .ok (.laload, 1) := by decide +kernel
theorem d_LW_law_463 : decode code 463 = .ok (.iload 6, 2) := by decide +kernel
theorem d_LW_law_465 : decode code 465 = .ok (.ifCond .eq 7, 3) := by decide +kernel
theorem d_LW_law_468 : decode code 468 = .ok (.lconst 1, 1) := by decide +kernel
theorem d_LW_law_469 : decode code 469 = .ok (.goto 4, 3) := by decide +kernel
theorem d_LW_law_472 : decode code 472 = .ok (.lconst 0, 1) := by decide +kernel
theorem d_LW_law_473 : decode code 473 = .ok (.lcmp, 1) := by decide +kernel
theorem d_LW_law_474 : decode code 474 = .ok (.ifCond .eq 5, 3) := by decide +kernel
theorem d_LW_law_477 : decode code 477 = .ok (.iconst 0, 1) := by decide +kernel
theorem d_LW_law_478 : decode code 478 = .ok (.ireturn, 1) := by decide +kernel
theorem d_LW_law_479 : decode code 479 = .ok (.goto 527, 3) := by decide +kernel
theorem d_LW_law_482 : decode code 482 = .ok (.aload_n 1, 1) := by decide +kernel
theorem d_LW_law_483 : decode code 483 = .ok (.aload_n 0, 1) := by decide +kernel
theorem d_LW_law_484 : decode code 484 = .ok (.iload 4, 2) := by decide +kernel
theorem d_LW_law_486 : decode code 486 = .ok (.iconst 1, 1) := by decide +kernel
theorem d_LW_law_487 : decode code 487 = .ok (.iadd, 1) := by decide +kernel
theorem d_LW_law_488 : decode code 488 = .ok (.iaload, 1) := by decide +kernel
theorem d_LW_law_489 : decode code 489 = .ok (.aload_n 3, 1) := by decide +kernel
theorem d_LW_law_490 : decode code 490 = .ok (.invokestatic 91, 3) := by decide +kernel
theorem d_LW_law_493 : decode code 493 = .ok (.istore 5, 2) := by decide +kernel
theorem d_LW_law_495 : decode code 495 = .ok (.aload_n 2, 1) := by decide +kernel
theorem d_LW_law_496 : decode code 496 = .ok (.aload_n 0, 1) := by decide +kernel
theorem d_LW_law_497 : decode code 497 = .ok (.iload 4, 2) := by decide +kernel
theorem d_LW_law_499 : decode code 499 = .ok (.iconst 1, 1) := by decide +kernel
theorem d_LW_law_500 : decode code 500 = .ok (.iadd, 1) := by decide +kernel
theorem d_LW_law_501 : decode code 501 = .ok (.iaload, 1) := by decide +kernel
theorem d_LW_law_502 : decode code 502 = .ok (.invokevirtual 93, 3) := by decide +kernel
theorem d_LW_law_505 : decode code 505 = .ok (.istore 6, 2) := by decide +kernel
theorem d_LW_law_507 : decode code 507 = .ok (.aload_n 2, 1) := by decide +kernel
theorem d_LW_law_508 : decode code 508 = .ok (.invokevirtual 74, 3) := by decide +kernel
theorem d_LW_law_511 : decode code 511 = .ok (.iload 5, 2) := by decide +kernel
theorem d_LW_law_513 : decode code 513 = .ok (.if_icmp .eq 5, 3) := by decide +kernel
theorem d_LW_law_516 : decode code 516 = .ok (.iconst 0, 1) := by decide +kernel
theorem d_LW_law_517 : decode code 517 = .ok (.ireturn, 1) := by decide +kernel
theorem d_LW_law_518 : decode code 518 = .ok (.iload 5, 2) := by decide +kernel
theorem d_LW_law_520 : decode code 520 = .ok (.ifCond .ne 15, 3) := by decide +kernel
theorem d_LW_law_523 : decode code 523 = .ok (.aload_n 3, 1) := by decide +kernel
theorem d_LW_law_524 : decode code 524 = .ok (.iconst 0, 1) := by decide +kernel
theorem d_LW_law_525 : decode code 525 = .ok (.laload, 1) := by decide +kernel
theorem d_LW_law_526 : decode code 526 = .ok (.iload 6, 2) := by decide +kernel
theorem d_LW_law_528 : decode code 528 = .ok (.i2l, 1) := by decide +kernel
theorem d_LW_law_529 : decode code 529 = .ok (.lcmp, 1) := by decide +kernel
theorem d_LW_law_530 : decode code 530 = .ok (.ifCond .eq 5, 3) := by decide +kernel
theorem d_LW_law_533 : decode code 533 = .ok (.iconst 0, 1) := by decide +kernel
theorem d_LW_law_534 : decode code 534 = .ok (.ireturn, 1) := by decide +kernel
theorem d_LW_law_535 : decode code 535 = .ok (.goto 471, 3) := by decide +kernel
theorem d_LW_law_538 : decode code 538 = .ok (.aload_n 1, 1) := by decide +kernel
theorem d_LW_law_539 : decode code 539 = .ok (.aload_n 0, 1) := by decide +kernel
theorem d_LW_law_540 : decode code 540 = .ok (.iload 4, 2) := by decide +kernel
theorem d_LW_law_542 : decode code 542 = .ok (.iconst 1, 1) := by decide +kernel
theorem d_LW_law_543 : decode code 543 = .ok (.iadd, 1) := by decide +kernel
theorem d_LW_law_544 : decode code 544 = .ok (.iaload, 1) := by decide +kernel
theorem d_LW_law_545 : decode code 545 = .ok (.aload_n 3, 1) := by decide +kernel
theorem d_LW_law_546 : decode code 546 = .ok (.invokestatic 94, 3) := by decide +kernel
theorem d_LW_law_549 : decode code 549 = .ok (.istore 5, 2) := by decide +kernel
theorem d_LW_law_551 : decode code 551 = .ok (.aload_n 2, 1) := by decide +kernel
theorem d_LW_law_552 : decode code 552 = .ok (.aload_n 0, 1) := by decide +kernel
theorem d_LW_law_553 : decode code 553 = .ok (.iload 4, 2) := by decide +kernel
theorem d_LW_law_555 : decode code 555 = .ok (.iconst 1, 1) := by decide +kernel
theorem d_LW_law_556 : decode code 556 = .ok (.iadd, 1) := by decide +kernel
theorem d_LW_law_557 : decode code 557 = .ok (.iaload, 1) := by decide +kernel
theorem d_LW_law_558 : decode code 558 = .ok (.invokevirtual 96, 3) := by decide +kernel
theorem d_LW_law_561 : decode code 561 = .ok (.istore 6, 2) := by decide +kernel
theorem d_LW_law_563 : decode code 563 = .ok (.aload_n 2, 1) := by decide +kernel
theorem d_LW_law_564 : decode code 564 = .ok (.invokevirtual 74, 3) := by decide +kernel
theorem d_LW_law_567 : decode code 567 = .ok (.iload 5, 2) := by decide +kernel
theorem d_LW_law_569 : decode code 569 = .ok (.if_icmp .eq 5, 3) := by decide +kernel
theorem d_LW_law_572 : decode code 572 = .ok (.iconst 0, 1) := by decide +kernel
theorem d_LW_law_573 : decode code 573 = .ok (.ireturn, 1) := by decide +kernel
theorem d_LW_law_574 : decode code 574 = .ok (.iload 5, 2) := by decide +kernel
theorem d_LW_law_576 : decode code 576 = .ok (.ifCond .ne 15, 3) := by decide +kernel
theorem d_LW_law_579 : decode code 579 = .ok (.aload_n 3, 1) := by decide +kernel
theorem d_LW_law_580 : decode code 580 = .ok (.iconst 0, 1) := by decide +kernel
theorem d_LW_law_581 : decode code 581 = .ok (.laload, 1) := by decide +kernel
theorem d_LW_law_582 : decode code 582 = .ok (.iload 6, 2) := by decide +kernel
theorem d_LW_law_584 : decode code 584 = .ok (.i2l, 1) := by decide +kernel
theorem d_LW_law_585 : decode code 585 = .ok (.lcmp, 1) := by decide +kernel
theorem d_LW_law_586 : decode code 586 = .ok (.ifCond .eq 5, 3) := by decide +kernel
theorem d_LW_law_589 : decode code 589 = .ok (.iconst 0, 1) := by decide +kernel
theorem d_LW_law_590 : decode code 590 = .ok (.ireturn, 1) := by decide +kernel
theorem d_LW_law_591 : decode code 591 = .ok (.goto 415, 3) := by decide +kernel
theorem d_LW_law_594 : decode code 594 = .ok (.aload_n 1, 1) := by decide +kernel
theorem d_LW_law_595 : decode code 595 = .ok (.invokevirtual 97, 3) := by decide +kernel
theorem d_LW_law_598 : decode code 598 = .ok (.aload_n 2, 1) := by decide +kernel
theorem d_LW_law_599 : decode code 599 = .ok (.invokevirtual 100, 3) := by decide +kernel
theorem d_LW_law_602 : decode code 602 = .ok (.if_icmp .eq 404, 3) := by decide +kernel
theorem d_LW_law_605 : decode code 605 = .ok (.iconst 0, 1) := by decide +kernel
theorem d_LW_law_606 : decode code 606 = .ok (.ireturn, 1) := by decide +kernel
theorem d_LW_law_607 : decode code 607 = .ok (.aload_n 1, 1) := by decide +kernel
theorem d_LW_law_608 : decode code 608 = .ok (.aload_n 0, 1) := by decide +kernel
theorem d_LW_law_609 : decode code 609 = .ok (.iload 4, 2) := by decide +kernel
theorem d_LW_law_611 : decode code 611 = .ok (.iconst 1, 1) := by decide +kernel
theorem d_LW_law_612 : decode code 612 = .ok (.iadd, 1) := by decide +kernel
theorem d_LW_law_613 : decode code 613 = .ok (.iaload, 1) := by decide +kernel
theorem d_LW_law_614 : decode code 614 = .ok (.aload_n 0, 1) := by decide +kernel
theorem d_LW_law_615 : decode code 615 = .ok (.iload 4, 2) := by decide +kernel
theorem d_LW_law_617 : decode code 617 = .ok (.iconst 2, 1) := by decide +kernel
theorem d_LW_law_618 : decode code 618 = .ok (.iadd, 1) := by decide +kernel
theorem d_LW_law_619 : decode code 619 = .ok (.iaload, 1) := by decide +kernel
theorem d_LW_law_620 : decode code 620 = .ok (.aload_n 3, 1) := by decide +kernel
theorem d_LW_law_621 : decode code 621 = .ok (.invokestatic 101, 3) := by decide +kernel
theorem d_LW_law_624 : decode code 624 = .ok (.istore 5, 2) := by decide +kernel
theorem d_LW_law_626 : decode code 626 = .ok (.aload_n 2, 1) := by decide +kernel
theorem d_LW_law_627 : decode code 627 = .ok (.aload_n 0, 1) := by decide +kernel
theorem d_LW_law_628 : decode code 628 = .ok (.iload 4, 2) := by decide +kernel
theorem d_LW_law_630 : decode code 630 = .ok (.iconst 1, 1) := by decide +kernel
theorem d_LW_law_631 : decode code 631 = .ok (.iadd, 1) := by decide +kernel
theorem d_LW_law_632 : decode code 632 = .ok (.iaload, 1) := by decide +kernel
theorem d_LW_law_633 : decode code 633 = .ok (.aload_n 0, 1) := by decide +kernel
theorem d_LW_law_634 : decode code 634 = .ok (.iload 4, 2) := by decide +kernel
theorem d_LW_law_636 : decode code 636 = .ok (.iconst 2, 1) := by decide +kernel
theorem d_LW_law_637 : decode code 637 = .ok (.iadd, 1) := by decide +kernel
theorem d_LW_law_638 : decode code 638 = .ok (.iaload, 1) := by decide +kernel
theorem d_LW_law_639 : decode code 639 = .ok (.invokevirtual 104, 3) := by decide +kernel
theorem d_LW_law_642 : decode code 642 = .ok (.istore 6, 2) := by decide +kernel
theorem d_LW_law_644 : decode code 644 = .ok (.aload_n 2, 1) := by decide +kernel
theorem d_LW_law_645 : decode code 645 = .ok (.invokevirtual 74, 3) := by decide +kernel
theorem d_LW_law_648 : decode code 648 = .ok (.iload 5, 2) := by decide +kernel
theorem d_LW_law_650 : decode code 650 = .ok (.if_icmp .eq 5, 3) := by decide +kernel
theorem d_LW_law_653 : decode code 653 = .ok (.iconst 0, 1) := by decide +kernel
theorem d_LW_law_654 : decode code 654 = .ok (.ireturn, 1) := by decide +kernel
theorem d_LW_law_655 : decode code 655 = .ok (.iload 5, 2) := by decide +kernel
theorem d_LW_law_657 : decode code 657 = .ok (.ifCond .ne 15, 3) := by decide +kernel
theorem d_LW_law_660 : decode code 660 = .ok (.aload_n 3, 1) := by decide +kernel
theorem d_LW_law_661 : decode code 661 = .ok (.iconst 0, 1) := by decide +kernel
theorem d_LW_law_662 : decode code 662 = .ok (.laload, 1) := by decide +kernel
theorem d_LW_law_663 : decode code 663 = .ok (.iload 6, 2) := by decide +kernel
theorem d_LW_law_665 : decode code 665 = .ok (.i2l, 1) := by decide +kernel
theorem d_LW_law_666 : decode code 666 = .ok (.lcmp, 1) := by decide +kernel
theorem d_LW_law_667 : decode code 667 = .ok (.ifCond .eq 5, 3) := by decide +kernel
theorem d_LW_law_670 : decode code 670 = .ok (.iconst 0, 1) := by decide +kernel
theorem d_LW_law_671 : decode code 671 = .ok (.ireturn, 1) := by decide +kernel
theorem d_LW_law_672 : decode code 672 = .ok (.goto 334, 3) := by decide +kernel
theorem d_LW_law_675 : decode code 675 = .ok (.aload_n 1, 1) := by decide +kernel
theorem d_LW_law_676 : decode code 676 = .ok (.aload_n 0, 1) := by decide +kernel
theorem d_LW_law_677 : decode code 677 = .ok (.iload 4, 2) := by decide +kernel
theorem d_LW_law_679 : decode code 679 = .ok (.iconst 1, 1) := by decide +kernel
theorem d_LW_law_680 : decode code 680 = .ok (.iadd, 1) := by decide +kernel
theorem d_LW_law_681 : decode code 681 = .ok (.iaload, 1) := by decide +kernel
theorem d_LW_law_682 : decode code 682 = .ok (.aload_n 0, 1) := by decide +kernel
theorem d_LW_law_683 : decode code 683 = .ok (.iload 4, 2) := by decide +kernel
theorem d_LW_law_685 : decode code 685 = .ok (.iconst 2, 1) := by decide +kernel
theorem d_LW_law_686 : decode code 686 = .ok (.iadd, 1) := by decide +kernel
theorem d_LW_law_687 : decode code 687 = .ok (.iaload, 1) := by decide +kernel
theorem d_LW_law_688 : decode code 688 = .ok (.aload_n 0, 1) := by decide +kernel
theorem d_LW_law_689 : decode code 689 = .ok (.iload 4, 2) := by decide +kernel
theorem d_LW_law_691 : decode code 691 = .ok (.iconst 3, 1) := by decide +kernel
theorem d_LW_law_692 : decode code 692 = .ok (.iadd, 1) := by decide +kernel
theorem d_LW_law_693 : decode code 693 = .ok (.iaload, 1) := by decide +kernel
theorem d_LW_law_694 : decode code 694 = .ok (.aload_n 3, 1) := by decide +kernel
theorem d_LW_law_695 : decode code 695 = .ok (.invokestatic 105, 3) := by decide +kernel
theorem d_LW_law_698 : decode code 698 = .ok (.istore 5, 2) := by decide +kernel
theorem d_LW_law_700 : decode code 700 = .ok (.aload_n 2, 1) := by decide +kernel
theorem d_LW_law_701 : decode code 701 = .ok (.aload_n 0, 1) := by decide +kernel
theorem d_LW_law_702 : decode code 702 = .ok (.iload 4, 2) := by decide +kernel
theorem d_LW_law_704 : decode code 704 = .ok (.iconst 1, 1) := by decide +kernel
theorem d_LW_law_705 : decode code 705 = .ok (.iadd, 1) := by decide +kernel
theorem d_LW_law_706 : decode code 706 = .ok (.iaload, 1) := by decide +kernel
theorem d_LW_law_707 : decode code 707 = .ok (.aload_n 0, 1) := by decide +kernel
theorem d_LW_law_708 : decode code 708 = .ok (.iload 4, 2) := by decide +kernel
theorem d_LW_law_710 : decode code 710 = .ok (.iconst 2, 1) := by decide +kernel
theorem d_LW_law_711 : decode code 711 = .ok (.iadd, 1) := by decide +kernel
theorem d_LW_law_712 : decode code 712 = .ok (.iaload, 1) := by decide +kernel
theorem d_LW_law_713 : decode code 713 = .ok (.aload_n 0, 1) := by decide +kernel
theorem d_LW_law_714 : decode code 714 = .ok (.iload 4, 2) := by decide +kernel
theorem d_LW_law_716 : decode code 716 = .ok (.iconst 3, 1) := by decide +kernel
theorem d_LW_law_717 : decode code 717 = .ok (.iadd, 1) := by decide +kernel
theorem d_LW_law_718 : decode code 718 = .ok (.iaload, 1) := by decide +kernel
theorem d_LW_law_719 : decode code 719 = .ok (.invokevirtual 108, 3) := by decide +kernel
theorem d_LW_law_722 : decode code 722 = .ok (.istore 6, 2) := by decide +kernel
theorem d_LW_law_724 : decode code 724 = .ok (.aload_n 2, 1) := by decide +kernel
theorem d_LW_law_725 : decode code 725 = .ok (.invokevirtual 74, 3) := by decide +kernel
theorem d_LW_law_728 : decode code 728 = .ok (.iload 5, 2) := by decide +kernel
theorem d_LW_law_730 : decode code 730 = .ok (.if_icmp .eq 5, 3) := by decide +kernel
theorem d_LW_law_733 : decode code 733 = .ok (.iconst 0, 1) := by decide +kernel
theorem d_LW_law_734 : decode code 734 = .ok (.ireturn, 1) := by decide +kernel
theorem d_LW_law_735 : decode code 735 = .ok (.iload 5, 2) := by decide +kernel
theorem d_LW_law_737 : decode code 737 = .ok (.ifCond .ne 22, 3) := by decide +kernel
theorem d_LW_law_740 : decode code 740 = .ok (.aload_n 3, 1) := by decide +kernel
theorem d_LW_law_741 : decode code 741 = .ok (.iconst 0, 1) := by decide +kernel
theorem d_LW_law_742 : decode code 742 = .ok (.laload, 1) := by decide +kernel
theorem d_LW_law_743 : decode code 743 = .ok (.iload 6, 2) := by decide +kernel
theorem d_LW_law_745 : decode code 745 = .ok (.ifCond .eq 7, 3) := by decide +kernel
theorem d_LW_law_748 : decode code 748 = .ok (.lconst 1, 1) := by decide +kernel
theorem d_LW_law_749 : decode code 749 = .ok (.goto 4, 3) := by decide +kernel
theorem d_LW_law_752 : decode code 752 = .ok (.lconst 0, 1) := by decide +kernel
theorem d_LW_law_753 : decode code 753 = .ok (.lcmp, 1) := by decide +kernel
theorem d_LW_law_754 : decode code 754 = .ok (.ifCond .eq 5, 3) := by decide +kernel
theorem d_LW_law_757 : decode code 757 = .ok (.iconst 0, 1) := by decide +kernel
theorem d_LW_law_758 : decode code 758 = .ok (.ireturn, 1) := by decide +kernel
theorem d_LW_law_759 : decode code 759 = .ok (.goto 247, 3) := by decide +kernel
theorem d_LW_law_762 : decode code 762 = .ok (.aload_n 1, 1) := by decide +kernel
theorem d_LW_law_763 : decode code 763 = .ok (.aload_n 0, 1) := by decide +kernel
theorem d_LW_law_764 : decode code 764 = .ok (.iload 4, 2) := by decide +kernel
theorem d_LW_law_766 : decode code 766 = .ok (.iconst 1, 1) := by decide +kernel
theorem d_LW_law_767 : decode code 767 = .ok (.iadd, 1) := by decide +kernel
theorem d_LW_law_768 : decode code 768 = .ok (.iaload, 1) := by decide +kernel
theorem d_LW_law_769 : decode code 769 = .ok (.aload_n 0, 1) := by decide +kernel
theorem d_LW_law_770 : decode code 770 = .ok (.iload 4, 2) := by decide +kernel
theorem d_LW_law_772 : decode code 772 = .ok (.iconst 2, 1) := by decide +kernel
theorem d_LW_law_773 : decode code 773 = .ok (.iadd, 1) := by decide +kernel
theorem d_LW_law_774 : decode code 774 = .ok (.iaload, 1) := by decide +kernel
theorem d_LW_law_775 : decode code 775 = .ok (.aload_n 3, 1) := by decide +kernel
theorem d_LW_law_776 : decode code 776 = .ok (.invokestatic 109, 3) := by decide +kernel
theorem d_LW_law_779 : decode code 779 = .ok (.istore 5, 2) := by decide +kernel
theorem d_LW_law_781 : decode code 781 = .ok (.aload_n 2, 1) := by decide +kernel
theorem d_LW_law_782 : decode code 782 = .ok (.aload_n 0, 1) := by decide +kernel
theorem d_LW_law_783 : decode code 783 = .ok (.iload 4, 2) := by decide +kernel
theorem d_LW_law_785 : decode code 785 = .ok (.iconst 1, 1) := by decide +kernel
theorem d_LW_law_786 : decode code 786 = .ok (.iadd, 1) := by decide +kernel
theorem d_LW_law_787 : decode code 787 = .ok (.iaload, 1) := by decide +kernel
theorem d_LW_law_788 : decode code 788 = .ok (.aload_n 0, 1) := by decide +kernel
theorem d_LW_law_789 : decode code 789 = .ok (.iload 4, 2) := by decide +kernel
theorem d_LW_law_791 : decode code 791 = .ok (.iconst 2, 1) := by decide +kernel
theorem d_LW_law_792 : decode code 792 = .ok (.iadd, 1) := by decide +kernel
theorem d_LW_law_793 : decode code 793 = .ok (.iaload, 1) := by decide +kernel
theorem d_LW_law_794 : decode code 794 = .ok (.invokevirtual 111, 3) := by decide +kernel
theorem d_LW_law_797 : decode code 797 = .ok (.istore 6, 2) := by decide +kernel
theorem d_LW_law_799 : decode code 799 = .ok (.aload_n 2, 1) := by decide +kernel
theorem d_LW_law_800 : decode code 800 = .ok (.invokevirtual 74, 3) := by decide +kernel
theorem d_LW_law_803 : decode code 803 = .ok (.iload 5, 2) := by decide +kernel
theorem d_LW_law_805 : decode code 805 = .ok (.if_icmp .eq 5, 3) := by decide +kernel
theorem d_LW_law_808 : decode code 808 = .ok (.iconst 0, 1) := by decide +kernel
theorem d_LW_law_809 : decode code 809 = .ok (.ireturn, 1) := by decide +kernel
theorem d_LW_law_810 : decode code 810 = .ok (.iload 5, 2) := by decide +kernel
theorem d_LW_law_812 : decode code 812 = .ok (.ifCond .ne 22, 3) := by decide +kernel
theorem d_LW_law_815 : decode code 815 = .ok (.aload_n 3, 1) := by decide +kernel
theorem d_LW_law_816 : decode code 816 = .ok (.iconst 0, 1) := by decide +kernel
theorem d_LW_law_817 : decode code 817 = .ok (.laload, 1) := by decide +kernel
theorem d_LW_law_818 : decode code 818 = .ok (.iload 6, 2) := by decide +kernel
theorem d_LW_law_820 : decode code 820 = .ok (.ifCond .eq 7, 3) := by decide +kernel
theorem d_LW_law_823 : decode code 823 = .ok (.lconst 1, 1) := by decide +kernel
theorem d_LW_law_824 : decode code 824 = .ok (.goto 4, 3) := by decide +kernel
theorem d_LW_law_827 : decode code 827 = .ok (.lconst 0, 1) := by decide +kernel
theorem d_LW_law_828 : decode code 828 = .ok (.lcmp, 1) := by decide +kernel
theorem d_LW_law_829 : decode code 829 = .ok (.ifCond .eq 5, 3) := by decide +kernel
theorem d_LW_law_832 : decode code 832 = .ok (.iconst 0, 1) := by decide +kernel
theorem d_LW_law_833 : decode code 833 = .ok (.ireturn, 1) := by decide +kernel
theorem d_LW_law_834 : decode code 834 = .ok (.goto 172, 3) := by decide +kernel
theorem d_LW_law_837 : decode code 837 = .ok (.aload_n 1, 1) := by decide +kernel
theorem d_LW_law_838 : decode code 838 = .ok (.invokevirtual 112, 3) := by decide +kernel
theorem d_LW_law_841 : decode code 841 = .ok (.aload_n 2, 1) := by decide +kernel
theorem d_LW_law_842 : decode code 842 = .ok (.invokevirtual 115, 3) := by decide +kernel
theorem d_LW_law_845 : decode code 845 = .ok (.if_icmp .eq 161, 3) := by decide +kernel
theorem d_LW_law_848 : decode code 848 = .ok (.iconst 0, 1) := by decide +kernel
theorem d_LW_law_849 : decode code 849 = .ok (.ireturn, 1) := by decide +kernel
theorem d_LW_law_850 : decode code 850 = .ok (.aload_n 1, 1) := by decide +kernel
theorem d_LW_law_851 : decode code 851 = .ok (.aload_n 3, 1) := by decide +kernel
theorem d_LW_law_852 : decode code 852 = .ok (.invokestatic 116, 3) := by decide +kernel
theorem d_LW_law_855 : decode code 855 = .ok (.istore 5, 2) := by decide +kernel
theorem d_LW_law_857 : decode code 857 = .ok (.aload_n 2, 1) := by decide +kernel
theorem d_LW_law_858 : decode code 858 = .ok (.invokevirtual 118, 3) := by decide +kernel
theorem d_LW_law_861 : decode code 861 = .ok (.istore 6, 2) := by decide +kernel
theorem d_LW_law_863 : decode code 863 = .ok (.aload_n 2, 1) := by decide +kernel
theorem d_LW_law_864 : decode code 864 = .ok (.invokevirtual 74, 3) := by decide +kernel
theorem d_LW_law_867 : decode code 867 = .ok (.iload 5, 2) := by decide +kernel
theorem d_LW_law_869 : decode code 869 = .ok (.if_icmp .eq 5, 3) := by decide +kernel
theorem d_LW_law_872 : decode code 872 = .ok (.iconst 0, 1) := by decide +kernel
theorem d_LW_law_873 : decode code 873 = .ok (.ireturn, 1) := by decide +kernel
theorem d_LW_law_874 : decode code 874 = .ok (.iload 5, 2) := by decide +kernel
theorem d_LW_law_876 : decode code 876 = .ok (.ifCond .ne 15, 3) := by decide +kernel
theorem d_LW_law_879 : decode code 879 = .ok (.aload_n 3, 1) := by decide +kernel
theorem d_LW_law_880 : decode code 880 = .ok (.iconst 0, 1) := by decide +kernel
theorem d_LW_law_881 : decode code 881 = .ok (.laload, 1) := by decide +kernel
theorem d_LW_law_882 : decode code 882 = .ok (.iload 6, 2) := by decide +kernel
theorem d_LW_law_884 : decode code 884 = .ok (.i2l, 1) := by decide +kernel
theorem d_LW_law_885 : decode code 885 = .ok (.lcmp, 1) := by decide +kernel
theorem d_LW_law_886 : decode code 886 = .ok (.ifCond .eq 5, 3) := by decide +kernel
theorem d_LW_law_889 : decode code 889 = .ok (.iconst 0, 1) := by decide +kernel
theorem d_LW_law_890 : decode code 890 = .ok (.ireturn, 1) := by decide +kernel
theorem d_LW_law_891 : decode code 891 = .ok (.goto 115, 3) := by decide +kernel
theorem d_LW_law_894 : decode code 894 = .ok (.aload_n 1, 1) := by decide +kernel
theorem d_LW_law_895 : decode code 895 = .ok (.aload_n 0, 1) := by decide +kernel
theorem d_LW_law_896 : decode code 896 = .ok (.iload 4, 2) := by decide +kernel
theorem d_LW_law_898 : decode code 898 = .ok (.iconst 1, 1) := by decide +kernel
theorem d_LW_law_899 : decode code 899 = .ok (.iadd, 1) := by decide +kernel
theorem d_LW_law_900 : decode code 900 = .ok (.iaload, 1) := by decide +kernel
theorem d_LW_law_901 : decode code 901 = .ok (.aload_n 3, 1) := by decide +kernel
theorem d_LW_law_902 : decode code 902 = .ok (.invokestatic 119, 3) := by decide +kernel
theorem d_LW_law_905 : decode code 905 = .ok (.istore 5, 2) := by decide +kernel
theorem d_LW_law_907 : decode code 907 = .ok (.aload_n 2, 1) := by decide +kernel
theorem d_LW_law_908 : decode code 908 = .ok (.aload_n 0, 1) := by decide +kernel
theorem d_LW_law_909 : decode code 909 = .ok (.iload 4, 2) := by decide +kernel
theorem d_LW_law_911 : decode code 911 = .ok (.iconst 1, 1) := by decide +kernel
theorem d_LW_law_912 : decode code 912 = .ok (.iadd, 1) := by decide +kernel
theorem d_LW_law_913 : decode code 913 = .ok (.iaload, 1) := by decide +kernel
theorem d_LW_law_914 : decode code 914 = .ok (.invokevirtual 121, 3) := by decide +kernel
theorem d_LW_law_917 : decode code 917 = .ok (.istore 6, 2) := by decide +kernel
theorem d_LW_law_919 : decode code 919 = .ok (.aload_n 2, 1) := by decide +kernel
theorem d_LW_law_920 : decode code 920 = .ok (.invokevirtual 74, 3) := by decide +kernel
theorem d_LW_law_923 : decode code 923 = .ok (.iload 5, 2) := by decide +kernel
theorem d_LW_law_925 : decode code 925 = .ok (.if_icmp .eq 5, 3) := by decide +kernel
theorem d_LW_law_928 : decode code 928 = .ok (.iconst 0, 1) := by decide +kernel
theorem d_LW_law_929 : decode code 929 = .ok (.ireturn, 1) := by decide +kernel
theorem d_LW_law_930 : decode code 930 = .ok (.iload 5, 2) := by decide +kernel
theorem d_LW_law_932 : decode code 932 = .ok (.ifCond .ne 15, 3) := by decide +kernel
theorem d_LW_law_935 : decode code 935 = .ok (.aload_n 3, 1) := by decide +kernel
theorem d_LW_law_936 : decode code 936 = .ok (.iconst 0, 1) := by decide +kernel
theorem d_LW_law_937 : decode code 937 = .ok (.laload, 1) := by decide +kernel
theorem d_LW_law_938 : decode code 938 = .ok (.iload 6, 2) := by decide +kernel
theorem d_LW_law_940 : decode code 940 = .ok (.i2l, 1) := by decide +kernel
theorem d_LW_law_941 : decode code 941 = .ok (.lcmp, 1) := by decide +kernel
theorem d_LW_law_942 : decode code 942 = .ok (.ifCond .eq 5, 3) := by decide +kernel
theorem d_LW_law_945 : decode code 945 = .ok (.iconst 0, 1) := by decide +kernel
theorem d_LW_law_946 : decode code 946 = .ok (.ireturn, 1) := by decide +kernel
theorem d_LW_law_947 : decode code 947 = .ok (.goto 59, 3) := by decide +kernel
theorem d_LW_law_950 : decode code 950 = .ok (.aload_n 1, 1) := by decide +kernel
theorem d_LW_law_951 : decode code 951 = .ok (.aload_n 0, 1) := by decide +kernel
theorem d_LW_law_952 : decode code 952 = .ok (.iload 4, 2) := by decide +kernel
theorem d_LW_law_954 : decode code 954 = .ok (.iconst 1, 1) := by decide +kernel
theorem d_LW_law_955 : decode code 955 = .ok (.iadd, 1) := by decide +kernel
theorem d_LW_law_956 : decode code 956 = .ok (.iaload, 1) := by decide +kernel
theorem d_LW_law_957 : decode code 957 = .ok (.aload_n 3, 1) := by decide +kernel
theorem d_LW_law_958 : decode code 958 = .ok (.invokestatic 122, 3) := by decide +kernel
theorem d_LW_law_961 : decode code 961 = .ok (.istore 5, 2) := by decide +kernel
theorem d_LW_law_963 : decode code 963 = .ok (.aload_n 2, 1) := by decide +kernel
theorem d_LW_law_964 : decode code 964 = .ok (.aload_n 0, 1) := by decide +kernel
theorem d_LW_law_965 : decode code 965 = .ok (.iload 4, 2) := by decide +kernel
theorem d_LW_law_967 : decode code 967 = .ok (.iconst 1, 1) := by decide +kernel
theorem d_LW_law_968 : decode code 968 = .ok (.iadd, 1) := by decide +kernel
theorem d_LW_law_969 : decode code 969 = .ok (.iaload, 1) := by decide +kernel
theorem d_LW_law_970 : decode code 970 = .ok (.invokevirtual 124, 3) := by decide +kernel
theorem d_LW_law_973 : decode code 973 = .ok (.istore 6, 2) := by decide +kernel
theorem d_LW_law_975 : decode code 975 = .ok (.aload_n 2, 1) := by decide +kernel
theorem d_LW_law_976 : decode code 976 = .ok (.invokevirtual 74, 3) := by decide +kernel
theorem d_LW_law_979 : decode code 979 = .ok (.iload 5, 2) := by decide +kernel
theorem d_LW_law_981 : decode code 981 = .ok (.if_icmp .eq 5, 3) := by decide +kernel
theorem d_LW_law_984 : decode code 984 = .ok (.iconst 0, 1) := by decide +kernel
theorem d_LW_law_985 : decode code 985 = .ok (.ireturn, 1) := by decide +kernel
theorem d_LW_law_986 : decode code 986 = .ok (.iload 5, 2) := by decide +kernel
theorem d_LW_law_988 : decode code 988 = .ok (.ifCond .ne 15, 3) := by decide +kernel
theorem d_LW_law_991 : decode code 991 = .ok (.aload_n 3, 1) := by decide +kernel
theorem d_LW_law_992 : decode code 992 = .ok (.iconst 0, 1) := by decide +kernel
theorem d_LW_law_993 : decode code 993 = .ok (.laload, 1) := by decide +kernel
theorem d_LW_law_994 : decode code 994 = .ok (.iload 6, 2) := by decide +kernel
theorem d_LW_law_996 : decode code 996 = .ok (.i2l, 1) := by decide +kernel
theorem d_LW_law_997 : decode code 997 = .ok (.lcmp, 1) := by decide +kernel
theorem d_LW_law_998 : decode code 998 = .ok (.ifCond .eq 5, 3) := by decide +kernel
theorem d_LW_law_1001 : decode code 1001 = .ok (.iconst 0, 1) := by decide +kernel
theorem d_LW_law_1002 : decode code 1002 = .ok (.ireturn, 1) := by decide +kernel
theorem d_LW_law_1003 : decode code 1003 = .ok (.goto 3, 3) := by decide +kernel
theorem d_LW_law_1006 : decode code 1006 = .ok (.iinc 4 4, 3) := by decide +kernel
theorem d_LW_law_1009 : decode code 1009 = .ok (.goto (-966), 3) := by decide +kernel
theorem d_LW_law_1012 : decode code 1012 = .ok (.iconst 1, 1) := by decide +kernel
theorem d_LW_law_1013 : decode code 1013 = .ok (.ireturn, 1) := by decide +kernel
