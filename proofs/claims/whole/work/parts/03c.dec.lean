theorem dX7_init_238 : decode cX7_init 238 = .ok (.iconst (-1), 1) := by decide +kernel
theorem dX7_init_239 : decode cX7_init 239 = .ok (.iastore, 1) := by decide +kernel
theorem dX7_init_240 : decode cX7_init 240 = .ok (.dup, 1) := by decide +kernel
theorem dX7_init_241 : decode cX7_init 241 = .ok (.iconst 5, 1) := by decide +kernel
theorem dX7_init_242 : decode cX7_init 242 = .ok (.iconst (-1), 1) := by decide +kernel
theorem dX7_init_243 : decode cX7_init 243 = .ok (.iastore, 1) := by decide +kernel
theorem dX7_init_244 : decode cX7_init 244 = .ok (.dup, 1) := by decide +kernel
theorem dX7_init_245 : decode cX7_init 245 = .ok (.bipush 6, 2) := by decide +kernel
theorem dX7_init_247 : decode cX7_init 247 = .ok (.iconst (-1), 1) := by decide +kernel
theorem dX7_init_248 : decode cX7_init 248 = .ok (.iastore, 1) := by decide +kernel
theorem dX7_init_249 : decode cX7_init 249 = .ok (.dup, 1) := by decide +kernel
theorem dX7_init_250 : decode cX7_init 250 = .ok (.bipush 7, 2) := by decide +kernel
theorem dX7_init_252 : decode cX7_init 252 = .ok (.iconst (-1), 1) := by decide +kernel
theorem dX7_init_253 : decode cX7_init 253 = .ok (.iastore, 1) := by decide +kernel
theorem dX7_init_254 : decode cX7_init 254 = .ok (.dup, 1) := by decide +kernel
theorem dX7_init_255 : decode cX7_init 255 = .ok (.bipush 8, 2) := by decide +kernel
theorem dX7_init_257 : decode cX7_init 257 = .ok (.iconst (-1), 1) := by decide +kernel
theorem dX7_init_258 : decode cX7_init 258 = .ok (.iastore, 1) := by decide +kernel
theorem dX7_init_259 : decode cX7_init 259 = .ok (.dup, 1) := by decide +kernel
theorem dX7_init_260 : decode cX7_init 260 = .ok (.bipush 9, 2) := by decide +kernel
theorem dX7_init_262 : decode cX7_init 262 = .ok (.iconst (-1), 1) := by decide +kernel
theorem dX7_init_263 : decode cX7_init 263 = .ok (.iastore, 1) := by decide +kernel
theorem dX7_init_264 : decode cX7_init 264 = .ok (.dup, 1) := by decide +kernel
theorem dX7_init_265 : decode cX7_init 265 = .ok (.bipush 10, 2) := by decide +kernel
theorem dX7_init_267 : decode cX7_init 267 = .ok (.iconst (-1), 1) := by decide +kernel
theorem dX7_init_268 : decode cX7_init 268 = .ok (.iastore, 1) := by decide +kernel
theorem dX7_init_269 : decode cX7_init 269 = .ok (.dup, 1) := by decide +kernel
theorem dX7_init_270 : decode cX7_init 270 = .ok (.bipush 11, 2) := by decide +kernel
theorem dX7_init_272 : decode cX7_init 272 = .ok (.iconst (-1), 1) := by decide +kernel
theorem dX7_init_273 : decode cX7_init 273 = .ok (.iastore, 1) := by decide +kernel
theorem dX7_init_274 : decode cX7_init 274 = .ok (.dup, 1) := by decide +kernel
theorem dX7_init_275 : decode cX7_init 275 = .ok (.bipush 12, 2) := by decide +kernel
theorem dX7_init_277 : decode cX7_init 277 = .ok (.iconst (-1), 1) := by decide +kernel
theorem dX7_init_278 : decode cX7_init 278 = .ok (.iastore, 1) := by decide +kernel
theorem dX7_init_279 : decode cX7_init 279 = .ok (.dup, 1) := by decide +kernel
theorem dX7_init_280 : decode cX7_init 280 = .ok (.bipush 13, 2) := by decide +kernel
theorem dX7_init_282 : decode cX7_init 282 = .ok (.iconst (-1), 1) := by decide +kernel
theorem dX7_init_283 : decode cX7_init 283 = .ok (.iastore, 1) := by decide +kernel
theorem dX7_init_284 : decode cX7_init 284 = .ok (.dup, 1) := by decide +kernel
theorem dX7_init_285 : decode cX7_init 285 = .ok (.bipush 14, 2) := by decide +kernel
theorem dX7_init_287 : decode cX7_init 287 = .ok (.iconst (-1), 1) := by decide +kernel
theorem dX7_init_288 : decode cX7_init 288 = .ok (.iastore, 1) := by decide +kernel
theorem dX7_init_289 : decode cX7_init 289 = .ok (.dup, 1) := by decide +kernel
theorem dX7_init_290 : decode cX7_init 290 = .ok (.bipush 15, 2) := by decide +kernel
theorem dX7_init_292 : decode cX7_init 292 = .ok (.iconst (-1), 1) := by decide +kernel
theorem dX7_init_293 : decode cX7_init 293 = .ok (.iastore, 1) := by decide +kernel
theorem dX7_init_294 : decode cX7_init 294 = .ok (.dup, 1) := by decide +kernel
theorem dX7_init_295 : decode cX7_init 295 = .ok (.bipush 16, 2) := by decide +kernel
theorem dX7_init_297 : decode cX7_init 297 = .ok (.iconst (-1), 1) := by decide +kernel
theorem dX7_init_298 : decode cX7_init 298 = .ok (.iastore, 1) := by decide +kernel
theorem dX7_init_299 : decode cX7_init 299 = .ok (.dup, 1) := by decide +kernel
theorem dX7_init_300 : decode cX7_init 300 = .ok (.bipush 17, 2) := by decide +kernel
theorem dX7_init_302 : decode cX7_init 302 = .ok (.iconst (-1), 1) := by decide +kernel
theorem dX7_init_303 : decode cX7_init 303 = .ok (.iastore, 1) := by decide +kernel
theorem dX7_init_304 : decode cX7_init 304 = .ok (.dup, 1) := by decide +kernel
theorem dX7_init_305 : decode cX7_init 305 = .ok (.bipush 18, 2) := by decide +kernel
theorem dX7_init_307 : decode cX7_init 307 = .ok (.iconst (-1), 1) := by decide +kernel
theorem dX7_init_308 : decode cX7_init 308 = .ok (.iastore, 1) := by decide +kernel
theorem dX7_init_309 : decode cX7_init 309 = .ok (.dup, 1) := by decide +kernel
theorem dX7_init_310 : decode cX7_init 310 = .ok (.bipush 19, 2) := by decide +kernel
theorem dX7_init_312 : decode cX7_init 312 = .ok (.iconst (-1), 1) := by decide +kernel
theorem dX7_init_313 : decode cX7_init 313 = .ok (.iastore, 1) := by decide +kernel
theorem dX7_init_314 : decode cX7_init 314 = .ok (.putfield 41, 3) := by decide +kernel
theorem dX7_init_317 : decode cX7_init 317 = .ok (.aload_n 0, 1) := by decide +kernel
theorem dX7_init_318 : decode cX7_init 318 = .ok (.bipush 48, 2) := by decide +kernel
theorem dX7_init_320 : decode cX7_init 320 = .ok (.newarray .int, 2) := by decide +kernel
theorem dX7_init_322 : decode cX7_init 322 = .ok (.putfield 44, 3) := by decide +kernel
theorem dX7_init_325 : decode cX7_init 325 = .ok (.aload_n 0, 1) := by decide +kernel
theorem dX7_init_326 : decode cX7_init 326 = .ok (.bipush 24, 2) := by decide +kernel
theorem dX7_init_328 : decode cX7_init 328 = .ok (.newarray .int, 2) := by decide +kernel
theorem dX7_init_330 : decode cX7_init 330 = .ok (.putfield 47, 3) := by decide +kernel
theorem dX7_init_333 : decode cX7_init 333 = .ok (.aload_n 0, 1) := by decide +kernel
theorem dX7_init_334 : decode cX7_init 334 = .ok (.bipush 24, 2) := by decide +kernel
theorem dX7_init_336 : decode cX7_init 336 = .ok (.newarray .int, 2) := by decide +kernel
theorem dX7_init_338 : decode cX7_init 338 = .ok (.putfield 50, 3) := by decide +kernel
theorem dX7_init_341 : decode cX7_init 341 = .ok (.aload_n 0, 1) := by decide +kernel
theorem dX7_init_342 : decode cX7_init 342 = .ok (.bipush 24, 2) := by decide +kernel
theorem dX7_init_344 : decode cX7_init 344 = .ok (.newarray .int, 2) := by decide +kernel
theorem dX7_init_346 : decode cX7_init 346 = .ok (.putfield 53, 3) := by decide +kernel
theorem dX7_init_349 : decode cX7_init 349 = .ok (.aload_n 0, 1) := by decide +kernel
theorem dX7_init_350 : decode cX7_init 350 = .ok (.bipush 24, 2) := by decide +kernel
theorem dX7_init_352 : decode cX7_init 352 = .ok (.newarray .int, 2) := by decide +kernel
theorem dX7_init_354 : decode cX7_init 354 = .ok (.putfield 56, 3) := by decide +kernel
theorem dX7_init_357 : decode cX7_init 357 = .ok (.aload_n 0, 1) := by decide +kernel
theorem dX7_init_358 : decode cX7_init 358 = .ok (.bipush 24, 2) := by decide +kernel
theorem dX7_init_360 : decode cX7_init 360 = .ok (.newarray .int, 2) := by decide +kernel
theorem dX7_init_362 : decode cX7_init 362 = .ok (.putfield 59, 3) := by decide +kernel
theorem dX7_init_365 : decode cX7_init 365 = .ok (.aload_n 0, 1) := by decide +kernel
theorem dX7_init_366 : decode cX7_init 366 = .ok (.bipush 24, 2) := by decide +kernel
theorem dX7_init_368 : decode cX7_init 368 = .ok (.newarray .int, 2) := by decide +kernel
theorem dX7_init_370 : decode cX7_init 370 = .ok (.putfield 62, 3) := by decide +kernel
theorem dX7_init_373 : decode cX7_init 373 = .ok (.aload_n 0, 1) := by decide +kernel
theorem dX7_init_374 : decode cX7_init 374 = .ok (.bipush 24, 2) := by decide +kernel
theorem dX7_init_376 : decode cX7_init 376 = .ok (.newarray .int, 2) := by decide +kernel
theorem dX7_init_378 : decode cX7_init 378 = .ok (.putfield 65, 3) := by decide +kernel
theorem dX7_init_381 : decode cX7_init 381 = .ok (.aload_n 0, 1) := by decide +kernel
theorem dX7_init_382 : decode cX7_init 382 = .ok (.sipush 150, 3) := by decide +kernel
theorem dX7_init_385 : decode cX7_init 385 = .ok (.newarray .int, 2) := by decide +kernel
theorem dX7_init_387 : decode cX7_init 387 = .ok (.putfield 68, 3) := by decide +kernel
theorem dX7_init_390 : decode cX7_init 390 = .ok (.aload_n 0, 1) := by decide +kernel
theorem dX7_init_391 : decode cX7_init 391 = .ok (.bipush 24, 2) := by decide +kernel
theorem dX7_init_393 : decode cX7_init 393 = .ok (.newarray .boolean, 2) := by decide +kernel
theorem dX7_init_395 : decode cX7_init 395 = .ok (.putfield 71, 3) := by decide +kernel
theorem dX7_init_398 : decode cX7_init 398 = .ok (.aload_n 0, 1) := by decide +kernel
theorem dX7_init_399 : decode cX7_init 399 = .ok (.bipush 50, 2) := by decide +kernel
theorem dX7_init_401 : decode cX7_init 401 = .ok (.newarray .int, 2) := by decide +kernel
theorem dX7_init_403 : decode cX7_init 403 = .ok (.putfield 75, 3) := by decide +kernel
theorem dX7_init_406 : decode cX7_init 406 = .ok (.aload_n 0, 1) := by decide +kernel
theorem dX7_init_407 : decode cX7_init 407 = .ok (.bipush 80, 2) := by decide +kernel
theorem dX7_init_409 : decode cX7_init 409 = .ok (.newarray .int, 2) := by decide +kernel
theorem dX7_init_411 : decode cX7_init 411 = .ok (.putfield 78, 3) := by decide +kernel
theorem dX7_init_414 : decode cX7_init 414 = .ok (.aload_n 0, 1) := by decide +kernel
theorem dX7_init_415 : decode cX7_init 415 = .ok (.bipush 48, 2) := by decide +kernel
theorem dX7_init_417 : decode cX7_init 417 = .ok (.newarray .int, 2) := by decide +kernel
theorem dX7_init_419 : decode cX7_init 419 = .ok (.putfield 81, 3) := by decide +kernel
theorem dX7_init_422 : decode cX7_init 422 = .ok (.aload_n 0, 1) := by decide +kernel
theorem dX7_init_423 : decode cX7_init 423 = .ok (.bipush 48, 2) := by decide +kernel
theorem dX7_init_425 : decode cX7_init 425 = .ok (.newarray .int, 2) := by decide +kernel
theorem dX7_init_427 : decode cX7_init 427 = .ok (.putfield 84, 3) := by decide +kernel
theorem dX7_init_430 : decode cX7_init 430 = .ok (.iconst 0, 1) := by decide +kernel
theorem dX7_init_431 : decode cX7_init 431 = .ok (.istore_n 1, 1) := by decide +kernel
theorem dX7_init_432 : decode cX7_init 432 = .ok (.iload_n 1, 1) := by decide +kernel
theorem dX7_init_433 : decode cX7_init 433 = .ok (.bipush 48, 2) := by decide +kernel
theorem dX7_init_435 : decode cX7_init 435 = .ok (.if_icmp .ge 18, 3) := by decide +kernel
theorem dX7_init_438 : decode cX7_init 438 = .ok (.aload_n 0, 1) := by decide +kernel
theorem dX7_init_439 : decode cX7_init 439 = .ok (.getfield 44, 3) := by decide +kernel
theorem dX7_init_442 : decode cX7_init 442 = .ok (.iload_n 1, 1) := by decide +kernel
theorem dX7_init_443 : decode cX7_init 443 = .ok (.sipush (-9999), 3) := by decide +kernel
theorem dX7_init_446 : decode cX7_init 446 = .ok (.iastore, 1) := by decide +kernel
theorem dX7_init_447 : decode cX7_init 447 = .ok (.iinc 1 1, 3) := by decide +kernel
theorem dX7_init_450 : decode cX7_init 450 = .ok (.goto (-18), 3) := by decide +kernel
theorem dX7_init_453 : decode cX7_init 453 = .ok (.return_, 1) := by decide +kernel
theorem dX7_in_0 : decode cX7_in 0 = .ok (.iload_n 0, 1) := by decide +kernel
theorem dX7_in_1 : decode cX7_in 1 = .ok (.iload_n 1, 1) := by decide +kernel
theorem dX7_in_2 : decode cX7_in 2 = .ok (.if_icmp .lt 12, 3) := by decide +kernel
theorem dX7_in_5 : decode cX7_in 5 = .ok (.iload_n 0, 1) := by decide +kernel
theorem dX7_in_6 : decode cX7_in 6 = .ok (.iload_n 2, 1) := by decide +kernel
theorem dX7_in_7 : decode cX7_in 7 = .ok (.if_icmp .gt 7, 3) := by decide +kernel
theorem dX7_in_10 : decode cX7_in 10 = .ok (.iconst 1, 1) := by decide +kernel
theorem dX7_in_11 : decode cX7_in 11 = .ok (.goto 4, 3) := by decide +kernel
theorem dX7_in_14 : decode cX7_in 14 = .ok (.iconst 0, 1) := by decide +kernel
theorem dX7_in_15 : decode cX7_in 15 = .ok (.ireturn, 1) := by decide +kernel
theorem dX7_refuse_0 : decode cX7_refuse 0 = .ok (.aload_n 0, 1) := by decide +kernel
theorem dX7_refuse_1 : decode cX7_refuse 1 = .ok (.getfield 7, 3) := by decide +kernel
theorem dX7_refuse_4 : decode cX7_refuse 4 = .ok (.iload_n 1, 1) := by decide +kernel
theorem dX7_refuse_5 : decode cX7_refuse 5 = .ok (.ineg, 1) := by decide +kernel
theorem dX7_refuse_6 : decode cX7_refuse 6 = .ok (.dup2, 1) := by decide +kernel
theorem dX7_refuse_7 : decode cX7_refuse 7 = .ok (.iaload, 1) := by decide +kernel
theorem dX7_refuse_8 : decode cX7_refuse 8 = .ok (.iconst 1, 1) := by decide +kernel
theorem dX7_refuse_9 : decode cX7_refuse 9 = .ok (.iadd, 1) := by decide +kernel
theorem dX7_refuse_10 : decode cX7_refuse 10 = .ok (.iastore, 1) := by decide +kernel
theorem dX7_refuse_11 : decode cX7_refuse 11 = .ok (.iload_n 1, 1) := by decide +kernel
theorem dX7_refuse_12 : decode cX7_refuse 12 = .ok (.ireturn, 1) := by decide +kernel
theorem dX7_nought_0 : decode cX7_nought 0 = .ok (.aload_n 0, 1) := by decide +kernel
theorem dX7_nought_1 : decode cX7_nought 1 = .ok (.getfield 7, 3) := by decide +kernel
theorem dX7_nought_4 : decode cX7_nought 4 = .ok (.iload_n 1, 1) := by decide +kernel
theorem dX7_nought_5 : decode cX7_nought 5 = .ok (.ineg, 1) := by decide +kernel
theorem dX7_nought_6 : decode cX7_nought 6 = .ok (.dup2, 1) := by decide +kernel
theorem dX7_nought_7 : decode cX7_nought 7 = .ok (.iaload, 1) := by decide +kernel
theorem dX7_nought_8 : decode cX7_nought 8 = .ok (.iconst 1, 1) := by decide +kernel
theorem dX7_nought_9 : decode cX7_nought 9 = .ok (.iadd, 1) := by decide +kernel
theorem dX7_nought_10 : decode cX7_nought 10 = .ok (.iastore, 1) := by decide +kernel
theorem dX7_nought_11 : decode cX7_nought 11 = .ok (.iconst 0, 1) := by decide +kernel
theorem dX7_nought_12 : decode cX7_nought 12 = .ok (.ireturn, 1) := by decide +kernel
theorem dX7_isCell_0 : decode cX7_isCell 0 = .ok (.iload_n 1, 1) := by decide +kernel
theorem dX7_isCell_1 : decode cX7_isCell 1 = .ok (.iconst 0, 1) := by decide +kernel
theorem dX7_isCell_2 : decode cX7_isCell 2 = .ok (.aload_n 0, 1) := by decide +kernel
theorem dX7_isCell_3 : decode cX7_isCell 3 = .ok (.getfield 13, 3) := by decide +kernel
theorem dX7_isCell_6 : decode cX7_isCell 6 = .ok (.iconst 1, 1) := by decide +kernel
theorem dX7_isCell_7 : decode cX7_isCell 7 = .ok (.isub, 1) := by decide +kernel
theorem dX7_isCell_8 : decode cX7_isCell 8 = .ok (.invokestatic 87, 3) := by decide +kernel
theorem dX7_isCell_11 : decode cX7_isCell 11 = .ok (.ireturn, 1) := by decide +kernel
theorem dX7_isLoad_0 : decode cX7_isLoad 0 = .ok (.iload_n 1, 1) := by decide +kernel
theorem dX7_isLoad_1 : decode cX7_isLoad 1 = .ok (.iconst 0, 1) := by decide +kernel
theorem dX7_isLoad_2 : decode cX7_isLoad 2 = .ok (.aload_n 0, 1) := by decide +kernel
theorem dX7_isLoad_3 : decode cX7_isLoad 3 = .ok (.getfield 91, 3) := by decide +kernel
theorem dX7_isLoad_6 : decode cX7_isLoad 6 = .ok (.iconst 1, 1) := by decide +kernel
theorem dX7_isLoad_7 : decode cX7_isLoad 7 = .ok (.isub, 1) := by decide +kernel
theorem dX7_isLoad_8 : decode cX7_isLoad 8 = .ok (.invokestatic 87, 3) := by decide +kernel
theorem dX7_isLoad_11 : decode cX7_isLoad 11 = .ok (.ireturn, 1) := by decide +kernel
theorem dX7_cell_0 : decode cX7_cell 0 = .ok (.iload_n 1, 1) := by decide +kernel
theorem dX7_cell_1 : decode cX7_cell 1 = .ok (.iconst 1, 1) := by decide +kernel
theorem dX7_cell_2 : decode cX7_cell 2 = .ok (.bipush 60, 2) := by decide +kernel
theorem dX7_cell_4 : decode cX7_cell 4 = .ok (.invokestatic 87, 3) := by decide +kernel
theorem dX7_cell_7 : decode cX7_cell 7 = .ok (.ifCond .eq 19, 3) := by decide +kernel
theorem dX7_cell_10 : decode cX7_cell 10 = .ok (.iload_n 2, 1) := by decide +kernel
theorem dX7_cell_11 : decode cX7_cell 11 = .ok (.iconst 1, 1) := by decide +kernel
theorem dX7_cell_12 : decode cX7_cell 12 = .ok (.iconst 4, 1) := by decide +kernel
theorem dX7_cell_13 : decode cX7_cell 13 = .ok (.invokestatic 87, 3) := by decide +kernel
theorem dX7_cell_16 : decode cX7_cell 16 = .ok (.ifCond .eq 10, 3) := by decide +kernel
theorem dX7_cell_19 : decode cX7_cell 19 = .ok (.aload_n 0, 1) := by decide +kernel
theorem dX7_cell_20 : decode cX7_cell 20 = .ok (.getfield 91, 3) := by decide +kernel
theorem dX7_cell_23 : decode cX7_cell 23 = .ok (.ifCond .le 10, 3) := by decide +kernel
theorem dX7_cell_26 : decode cX7_cell 26 = .ok (.aload_n 0, 1) := by decide +kernel
theorem dX7_cell_27 : decode cX7_cell 27 = .ok (.bipush (-7), 2) := by decide +kernel
theorem dX7_cell_29 : decode cX7_cell 29 = .ok (.invokevirtual 94, 3) := by decide +kernel
theorem dX7_cell_32 : decode cX7_cell 32 = .ok (.ireturn, 1) := by decide +kernel
theorem dX7_cell_33 : decode cX7_cell 33 = .ok (.aload_n 0, 1) := by decide +kernel
theorem dX7_cell_34 : decode cX7_cell 34 = .ok (.getfield 13, 3) := by decide +kernel
theorem dX7_cell_37 : decode cX7_cell 37 = .ok (.bipush 10, 2) := by decide +kernel
theorem dX7_cell_39 : decode cX7_cell 39 = .ok (.if_icmp .ne 10, 3) := by decide +kernel
theorem dX7_cell_42 : decode cX7_cell 42 = .ok (.aload_n 0, 1) := by decide +kernel
theorem dX7_cell_43 : decode cX7_cell 43 = .ok (.bipush (-8), 2) := by decide +kernel
theorem dX7_cell_45 : decode cX7_cell 45 = .ok (.invokevirtual 94, 3) := by decide +kernel
theorem dX7_cell_48 : decode cX7_cell 48 = .ok (.ireturn, 1) := by decide +kernel
theorem dX7_cell_49 : decode cX7_cell 49 = .ok (.aload_n 0, 1) := by decide +kernel
theorem dX7_cell_50 : decode cX7_cell 50 = .ok (.getfield 26, 3) := by decide +kernel
theorem dX7_cell_53 : decode cX7_cell 53 = .ok (.aload_n 0, 1) := by decide +kernel
theorem dX7_cell_54 : decode cX7_cell 54 = .ok (.getfield 13, 3) := by decide +kernel
theorem dX7_cell_57 : decode cX7_cell 57 = .ok (.iload_n 1, 1) := by decide +kernel
theorem dX7_cell_58 : decode cX7_cell 58 = .ok (.iastore, 1) := by decide +kernel
theorem dX7_cell_59 : decode cX7_cell 59 = .ok (.aload_n 0, 1) := by decide +kernel
theorem dX7_cell_60 : decode cX7_cell 60 = .ok (.getfield 29, 3) := by decide +kernel
theorem dX7_cell_63 : decode cX7_cell 63 = .ok (.aload_n 0, 1) := by decide +kernel
theorem dX7_cell_64 : decode cX7_cell 64 = .ok (.getfield 13, 3) := by decide +kernel
theorem dX7_cell_67 : decode cX7_cell 67 = .ok (.iload_n 2, 1) := by decide +kernel
theorem dX7_cell_68 : decode cX7_cell 68 = .ok (.iastore, 1) := by decide +kernel
theorem dX7_cell_69 : decode cX7_cell 69 = .ok (.aload_n 0, 1) := by decide +kernel
theorem dX7_cell_70 : decode cX7_cell 70 = .ok (.getfield 17, 3) := by decide +kernel
theorem dX7_cell_73 : decode cX7_cell 73 = .ok (.aload_n 0, 1) := by decide +kernel
theorem dX7_cell_74 : decode cX7_cell 74 = .ok (.getfield 13, 3) := by decide +kernel
theorem dX7_cell_77 : decode cX7_cell 77 = .ok (.iload_n 3, 1) := by decide +kernel
theorem dX7_cell_78 : decode cX7_cell 78 = .ok (.ifCond .eq 7, 3) := by decide +kernel
theorem dX7_cell_81 : decode cX7_cell 81 = .ok (.iconst 4, 1) := by decide +kernel
theorem dX7_cell_82 : decode cX7_cell 82 = .ok (.goto 4, 3) := by decide +kernel
theorem dX7_cell_85 : decode cX7_cell 85 = .ok (.iconst 0, 1) := by decide +kernel
theorem dX7_cell_86 : decode cX7_cell 86 = .ok (.iastore, 1) := by decide +kernel
theorem dX7_cell_87 : decode cX7_cell 87 = .ok (.aload_n 0, 1) := by decide +kernel
theorem dX7_cell_88 : decode cX7_cell 88 = .ok (.dup, 1) := by decide +kernel
theorem dX7_cell_89 : decode cX7_cell 89 = .ok (.getfield 13, 3) := by decide +kernel
theorem dX7_cell_92 : decode cX7_cell 92 = .ok (.iconst 1, 1) := by decide +kernel
theorem dX7_cell_93 : decode cX7_cell 93 = .ok (.iadd, 1) := by decide +kernel
theorem dX7_cell_94 : decode cX7_cell 94 = .ok (.putfield 13, 3) := by decide +kernel
theorem dX7_cell_97 : decode cX7_cell 97 = .ok (.aload_n 0, 1) := by decide +kernel
theorem dX7_cell_98 : decode cX7_cell 98 = .ok (.getfield 13, 3) := by decide +kernel
theorem dX7_cell_101 : decode cX7_cell 101 = .ok (.iconst 1, 1) := by decide +kernel
theorem dX7_cell_102 : decode cX7_cell 102 = .ok (.isub, 1) := by decide +kernel
theorem dX7_cell_103 : decode cX7_cell 103 = .ok (.ireturn, 1) := by decide +kernel
theorem dX7_becomes_0 : decode cX7_becomes 0 = .ok (.aload_n 0, 1) := by decide +kernel
theorem dX7_becomes_1 : decode cX7_becomes 1 = .ok (.getfield 17, 3) := by decide +kernel
theorem dX7_becomes_4 : decode cX7_becomes 4 = .ok (.iload_n 1, 1) := by decide +kernel
theorem dX7_becomes_5 : decode cX7_becomes 5 = .ok (.iaload, 1) := by decide +kernel
theorem dX7_becomes_6 : decode cX7_becomes 6 = .ok (.iload_n 2, 1) := by decide +kernel
theorem dX7_becomes_7 : decode cX7_becomes 7 = .ok (.if_icmp .eq 10, 3) := by decide +kernel
theorem dX7_becomes_10 : decode cX7_becomes 10 = .ok (.aload_n 0, 1) := by decide +kernel
theorem dX7_becomes_11 : decode cX7_becomes 11 = .ok (.getfield 38, 3) := by decide +kernel
theorem dX7_becomes_14 : decode cX7_becomes 14 = .ok (.iload_n 1, 1) := by decide +kernel
theorem dX7_becomes_15 : decode cX7_becomes 15 = .ok (.iconst (-1), 1) := by decide +kernel
theorem dX7_becomes_16 : decode cX7_becomes 16 = .ok (.iastore, 1) := by decide +kernel
theorem dX7_becomes_17 : decode cX7_becomes 17 = .ok (.aload_n 0, 1) := by decide +kernel
theorem dX7_becomes_18 : decode cX7_becomes 18 = .ok (.getfield 17, 3) := by decide +kernel
theorem dX7_becomes_21 : decode cX7_becomes 21 = .ok (.iload_n 1, 1) := by decide +kernel
theorem dX7_becomes_22 : decode cX7_becomes 22 = .ok (.iload_n 2, 1) := by decide +kernel
theorem dX7_becomes_23 : decode cX7_becomes 23 = .ok (.iastore, 1) := by decide +kernel
theorem dX7_becomes_24 : decode cX7_becomes 24 = .ok (.return_, 1) := by decide +kernel
theorem dX7_nearest_0 : decode cX7_nearest 0 = .ok (.iload_n 1, 1) := by decide +kernel
theorem dX7_nearest_1 : decode cX7_nearest 1 = .ok (.iload_n 2, 1) := by decide +kernel
theorem dX7_nearest_2 : decode cX7_nearest 2 = .ok (.iadd, 1) := by decide +kernel
theorem dX7_nearest_3 : decode cX7_nearest 3 = .ok (.istore_n 3, 1) := by decide +kernel
theorem dX7_nearest_4 : decode cX7_nearest 4 = .ok (.aload_n 0, 1) := by decide +kernel
theorem dX7_nearest_5 : decode cX7_nearest 5 = .ok (.iload_n 3, 1) := by decide +kernel
theorem dX7_nearest_6 : decode cX7_nearest 6 = .ok (.invokevirtual 98, 3) := by decide +kernel
theorem dX7_nearest_9 : decode cX7_nearest 9 = .ok (.ifCond .eq 20, 3) := by decide +kernel
theorem dX7_nearest_12 : decode cX7_nearest 12 = .ok (.aload_n 0, 1) := by decide +kernel
theorem dX7_nearest_13 : decode cX7_nearest 13 = .ok (.getfield 38, 3) := by decide +kernel
theorem dX7_nearest_16 : decode cX7_nearest 16 = .ok (.iload_n 3, 1) := by decide +kernel
theorem dX7_nearest_17 : decode cX7_nearest 17 = .ok (.iaload, 1) := by decide +kernel
theorem dX7_nearest_18 : decode cX7_nearest 18 = .ok (.iconst (-1), 1) := by decide +kernel
theorem dX7_nearest_19 : decode cX7_nearest 19 = .ok (.if_icmp .ne 10, 3) := by decide +kernel
theorem dX7_nearest_22 : decode cX7_nearest 22 = .ok (.iload_n 3, 1) := by decide +kernel
theorem dX7_nearest_23 : decode cX7_nearest 23 = .ok (.iload_n 2, 1) := by decide +kernel
theorem dX7_nearest_24 : decode cX7_nearest 24 = .ok (.iadd, 1) := by decide +kernel
theorem dX7_nearest_25 : decode cX7_nearest 25 = .ok (.istore_n 3, 1) := by decide +kernel
theorem dX7_nearest_26 : decode cX7_nearest 26 = .ok (.goto (-22), 3) := by decide +kernel
theorem dX7_nearest_29 : decode cX7_nearest 29 = .ok (.aload_n 0, 1) := by decide +kernel
theorem dX7_nearest_30 : decode cX7_nearest 30 = .ok (.iload_n 3, 1) := by decide +kernel
theorem dX7_nearest_31 : decode cX7_nearest 31 = .ok (.invokevirtual 98, 3) := by decide +kernel
theorem dX7_nearest_34 : decode cX7_nearest 34 = .ok (.ifCond .eq 7, 3) := by decide +kernel
theorem dX7_nearest_37 : decode cX7_nearest 37 = .ok (.iload_n 3, 1) := by decide +kernel
theorem dX7_nearest_38 : decode cX7_nearest 38 = .ok (.goto 4, 3) := by decide +kernel
theorem dX7_nearest_41 : decode cX7_nearest 41 = .ok (.iconst (-1), 1) := by decide +kernel
theorem dX7_nearest_42 : decode cX7_nearest 42 = .ok (.ireturn, 1) := by decide +kernel
theorem dX7_least_0 : decode cX7_least 0 = .ok (.aload_n 0, 1) := by decide +kernel
theorem dX7_least_1 : decode cX7_least 1 = .ok (.getfield 17, 3) := by decide +kernel
theorem dX7_least_4 : decode cX7_least 4 = .ok (.iload_n 1, 1) := by decide +kernel
theorem dX7_least_5 : decode cX7_least 5 = .ok (.iaload, 1) := by decide +kernel
theorem dX7_least_6 : decode cX7_least 6 = .ok (.iconst 4, 1) := by decide +kernel
theorem dX7_least_7 : decode cX7_least 7 = .ok (.if_icmp .ne 7, 3) := by decide +kernel
theorem dX7_least_10 : decode cX7_least 10 = .ok (.sipush 3000, 3) := by decide +kernel
theorem dX7_least_13 : decode cX7_least 13 = .ok (.ireturn, 1) := by decide +kernel
theorem dX7_least_14 : decode cX7_least 14 = .ok (.aload_n 0, 1) := by decide +kernel
theorem dX7_least_15 : decode cX7_least 15 = .ok (.getfield 38, 3) := by decide +kernel
theorem dX7_least_18 : decode cX7_least 18 = .ok (.iload_n 1, 1) := by decide +kernel
theorem dX7_least_19 : decode cX7_least 19 = .ok (.iaload, 1) := by decide +kernel
theorem dX7_least_20 : decode cX7_least 20 = .ok (.iconst (-1), 1) := by decide +kernel
theorem dX7_least_21 : decode cX7_least 21 = .ok (.if_icmp .eq 10, 3) := by decide +kernel
theorem dX7_least_24 : decode cX7_least 24 = .ok (.aload_n 0, 1) := by decide +kernel
theorem dX7_least_25 : decode cX7_least 25 = .ok (.getfield 38, 3) := by decide +kernel
theorem dX7_least_28 : decode cX7_least 28 = .ok (.iload_n 1, 1) := by decide +kernel
theorem dX7_least_29 : decode cX7_least 29 = .ok (.iaload, 1) := by decide +kernel
theorem dX7_least_30 : decode cX7_least 30 = .ok (.ireturn, 1) := by decide +kernel
theorem dX7_least_31 : decode cX7_least 31 = .ok (.aload_n 0, 1) := by decide +kernel
theorem dX7_least_32 : decode cX7_least 32 = .ok (.iload_n 1, 1) := by decide +kernel
theorem dX7_least_33 : decode cX7_least 33 = .ok (.iconst (-1), 1) := by decide +kernel
theorem dX7_least_34 : decode cX7_least 34 = .ok (.invokevirtual 102, 3) := by decide +kernel
theorem dX7_least_37 : decode cX7_least 37 = .ok (.istore_n 2, 1) := by decide +kernel
theorem dX7_least_38 : decode cX7_least 38 = .ok (.aload_n 0, 1) := by decide +kernel
theorem dX7_least_39 : decode cX7_least 39 = .ok (.iload_n 1, 1) := by decide +kernel
theorem dX7_least_40 : decode cX7_least 40 = .ok (.iconst 1, 1) := by decide +kernel
theorem dX7_least_41 : decode cX7_least 41 = .ok (.invokevirtual 102, 3) := by decide +kernel
theorem dX7_least_44 : decode cX7_least 44 = .ok (.istore_n 3, 1) := by decide +kernel
theorem dX7_least_45 : decode cX7_least 45 = .ok (.iload_n 2, 1) := by decide +kernel
theorem dX7_least_46 : decode cX7_least 46 = .ok (.iconst (-1), 1) := by decide +kernel
theorem dX7_least_47 : decode cX7_least 47 = .ok (.if_icmp .eq 39, 3) := by decide +kernel
theorem dX7_least_50 : decode cX7_least 50 = .ok (.iload_n 3, 1) := by decide +kernel
theorem dX7_least_51 : decode cX7_least 51 = .ok (.iconst (-1), 1) := by decide +kernel
theorem dX7_least_52 : decode cX7_least 52 = .ok (.if_icmp .eq 34, 3) := by decide +kernel
theorem dX7_least_55 : decode cX7_least 55 = .ok (.aload_n 0, 1) := by decide +kernel
theorem dX7_least_56 : decode cX7_least 56 = .ok (.getfield 38, 3) := by decide +kernel
theorem dX7_least_59 : decode cX7_least 59 = .ok (.iload_n 2, 1) := by decide +kernel
theorem dX7_least_60 : decode cX7_least 60 = .ok (.iaload, 1) := by decide +kernel
theorem dX7_least_61 : decode cX7_least 61 = .ok (.aload_n 0, 1) := by decide +kernel
theorem dX7_least_62 : decode cX7_least 62 = .ok (.getfield 38, 3) := by decide +kernel
theorem dX7_least_65 : decode cX7_least 65 = .ok (.iload_n 3, 1) := by decide +kernel
theorem dX7_least_66 : decode cX7_least 66 = .ok (.iaload, 1) := by decide +kernel
theorem dX7_least_67 : decode cX7_least 67 = .ok (.if_icmp .ge 12, 3) := by decide +kernel
theorem dX7_least_70 : decode cX7_least 70 = .ok (.aload_n 0, 1) := by decide +kernel
theorem dX7_least_71 : decode cX7_least 71 = .ok (.getfield 38, 3) := by decide +kernel
theorem dX7_least_74 : decode cX7_least 74 = .ok (.iload_n 2, 1) := by decide +kernel
theorem dX7_least_75 : decode cX7_least 75 = .ok (.iaload, 1) := by decide +kernel
theorem dX7_least_76 : decode cX7_least 76 = .ok (.goto 9, 3) := by decide +kernel
theorem dX7_least_79 : decode cX7_least 79 = .ok (.aload_n 0, 1) := by decide +kernel
theorem dX7_least_80 : decode cX7_least 80 = .ok (.getfield 38, 3) := by decide +kernel
theorem dX7_least_83 : decode cX7_least 83 = .ok (.iload_n 3, 1) := by decide +kernel
theorem dX7_least_84 : decode cX7_least 84 = .ok (.iaload, 1) := by decide +kernel
theorem dX7_least_85 : decode cX7_least 85 = .ok (.ireturn, 1) := by decide +kernel
theorem dX7_least_86 : decode cX7_least 86 = .ok (.iload_n 2, 1) := by decide +kernel
theorem dX7_least_87 : decode cX7_least 87 = .ok (.iconst (-1), 1) := by decide +kernel
theorem dX7_least_88 : decode cX7_least 88 = .ok (.if_icmp .eq 14, 3) := by decide +kernel
theorem dX7_least_91 : decode cX7_least 91 = .ok (.aload_n 0, 1) := by decide +kernel
theorem dX7_least_92 : decode cX7_least 92 = .ok (.getfield 38, 3) := by decide +kernel
theorem dX7_least_95 : decode cX7_least 95 = .ok (.iload_n 2, 1) := by decide +kernel
theorem dX7_least_96 : decode cX7_least 96 = .ok (.iaload, 1) := by decide +kernel
theorem dX7_least_97 : decode cX7_least 97 = .ok (.iconst 2, 1) := by decide +kernel
theorem dX7_least_98 : decode cX7_least 98 = .ok (.idiv, 1) := by decide +kernel
theorem dX7_least_99 : decode cX7_least 99 = .ok (.goto 20, 3) := by decide +kernel
theorem dX7_least_102 : decode cX7_least 102 = .ok (.iload_n 3, 1) := by decide +kernel
theorem dX7_least_103 : decode cX7_least 103 = .ok (.iconst (-1), 1) := by decide +kernel
theorem dX7_least_104 : decode cX7_least 104 = .ok (.if_icmp .eq 14, 3) := by decide +kernel
theorem dX7_least_107 : decode cX7_least 107 = .ok (.aload_n 0, 1) := by decide +kernel
theorem dX7_least_108 : decode cX7_least 108 = .ok (.getfield 38, 3) := by decide +kernel
theorem dX7_least_111 : decode cX7_least 111 = .ok (.iload_n 3, 1) := by decide +kernel
theorem dX7_least_112 : decode cX7_least 112 = .ok (.iaload, 1) := by decide +kernel
theorem dX7_least_113 : decode cX7_least 113 = .ok (.iconst 2, 1) := by decide +kernel
theorem dX7_least_114 : decode cX7_least 114 = .ok (.idiv, 1) := by decide +kernel
theorem dX7_least_115 : decode cX7_least 115 = .ok (.goto 4, 3) := by decide +kernel
theorem dX7_least_118 : decode cX7_least 118 = .ok (.iconst 0, 1) := by decide +kernel
theorem dX7_least_119 : decode cX7_least 119 = .ok (.ireturn, 1) := by decide +kernel
theorem dX7_most_0 : decode cX7_most 0 = .ok (.aload_n 0, 1) := by decide +kernel
theorem dX7_most_1 : decode cX7_most 1 = .ok (.getfield 17, 3) := by decide +kernel
theorem dX7_most_4 : decode cX7_most 4 = .ok (.iload_n 1, 1) := by decide +kernel
theorem dX7_most_5 : decode cX7_most 5 = .ok (.iaload, 1) := by decide +kernel
theorem dX7_most_6 : decode cX7_most 6 = .ok (.iconst 4, 1) := by decide +kernel
theorem dX7_most_7 : decode cX7_most 7 = .ok (.if_icmp .ne 7, 3) := by decide +kernel
theorem dX7_most_10 : decode cX7_most 10 = .ok (.sipush 3000, 3) := by decide +kernel
theorem dX7_most_13 : decode cX7_most 13 = .ok (.ireturn, 1) := by decide +kernel
theorem dX7_most_14 : decode cX7_most 14 = .ok (.aload_n 0, 1) := by decide +kernel
theorem dX7_most_15 : decode cX7_most 15 = .ok (.getfield 38, 3) := by decide +kernel
theorem dX7_most_18 : decode cX7_most 18 = .ok (.iload_n 1, 1) := by decide +kernel
theorem dX7_most_19 : decode cX7_most 19 = .ok (.iaload, 1) := by decide +kernel
theorem dX7_most_20 : decode cX7_most 20 = .ok (.iconst (-1), 1) := by decide +kernel
theorem dX7_most_21 : decode cX7_most 21 = .ok (.if_icmp .eq 10, 3) := by decide +kernel
theorem dX7_most_24 : decode cX7_most 24 = .ok (.aload_n 0, 1) := by decide +kernel
theorem dX7_most_25 : decode cX7_most 25 = .ok (.getfield 38, 3) := by decide +kernel
theorem dX7_most_28 : decode cX7_most 28 = .ok (.iload_n 1, 1) := by decide +kernel
theorem dX7_most_29 : decode cX7_most 29 = .ok (.iaload, 1) := by decide +kernel
theorem dX7_most_30 : decode cX7_most 30 = .ok (.ireturn, 1) := by decide +kernel
theorem dX7_most_31 : decode cX7_most 31 = .ok (.aload_n 0, 1) := by decide +kernel
theorem dX7_most_32 : decode cX7_most 32 = .ok (.iload_n 1, 1) := by decide +kernel
theorem dX7_most_33 : decode cX7_most 33 = .ok (.iconst (-1), 1) := by decide +kernel
theorem dX7_most_34 : decode cX7_most 34 = .ok (.invokevirtual 102, 3) := by decide +kernel
theorem dX7_most_37 : decode cX7_most 37 = .ok (.istore_n 2, 1) := by decide +kernel
theorem dX7_most_38 : decode cX7_most 38 = .ok (.aload_n 0, 1) := by decide +kernel
theorem dX7_most_39 : decode cX7_most 39 = .ok (.iload_n 1, 1) := by decide +kernel
theorem dX7_most_40 : decode cX7_most 40 = .ok (.iconst 1, 1) := by decide +kernel
theorem dX7_most_41 : decode cX7_most 41 = .ok (.invokevirtual 102, 3) := by decide +kernel
theorem dX7_most_44 : decode cX7_most 44 = .ok (.istore_n 3, 1) := by decide +kernel
theorem dX7_most_45 : decode cX7_most 45 = .ok (.iload_n 2, 1) := by decide +kernel
theorem dX7_most_46 : decode cX7_most 46 = .ok (.iconst (-1), 1) := by decide +kernel
theorem dX7_most_47 : decode cX7_most 47 = .ok (.if_icmp .eq 39, 3) := by decide +kernel
theorem dX7_most_50 : decode cX7_most 50 = .ok (.iload_n 3, 1) := by decide +kernel
theorem dX7_most_51 : decode cX7_most 51 = .ok (.iconst (-1), 1) := by decide +kernel
theorem dX7_most_52 : decode cX7_most 52 = .ok (.if_icmp .eq 34, 3) := by decide +kernel
theorem dX7_most_55 : decode cX7_most 55 = .ok (.aload_n 0, 1) := by decide +kernel
theorem dX7_most_56 : decode cX7_most 56 = .ok (.getfield 38, 3) := by decide +kernel
theorem dX7_most_59 : decode cX7_most 59 = .ok (.iload_n 2, 1) := by decide +kernel
theorem dX7_most_60 : decode cX7_most 60 = .ok (.iaload, 1) := by decide +kernel
theorem dX7_most_61 : decode cX7_most 61 = .ok (.aload_n 0, 1) := by decide +kernel
theorem dX7_most_62 : decode cX7_most 62 = .ok (.getfield 38, 3) := by decide +kernel
theorem dX7_most_65 : decode cX7_most 65 = .ok (.iload_n 3, 1) := by decide +kernel
theorem dX7_most_66 : decode cX7_most 66 = .ok (.iaload, 1) := by decide +kernel
theorem dX7_most_67 : decode cX7_most 67 = .ok (.if_icmp .le 12, 3) := by decide +kernel
theorem dX7_most_70 : decode cX7_most 70 = .ok (.aload_n 0, 1) := by decide +kernel
theorem dX7_most_71 : decode cX7_most 71 = .ok (.getfield 38, 3) := by decide +kernel
theorem dX7_most_74 : decode cX7_most 74 = .ok (.iload_n 2, 1) := by decide +kernel
theorem dX7_most_75 : decode cX7_most 75 = .ok (.iaload, 1) := by decide +kernel
theorem dX7_most_76 : decode cX7_most 76 = .ok (.goto 9, 3) := by decide +kernel
theorem dX7_most_79 : decode cX7_most 79 = .ok (.aload_n 0, 1) := by decide +kernel
theorem dX7_most_80 : decode cX7_most 80 = .ok (.getfield 38, 3) := by decide +kernel
theorem dX7_most_83 : decode cX7_most 83 = .ok (.iload_n 3, 1) := by decide +kernel
theorem dX7_most_84 : decode cX7_most 84 = .ok (.iaload, 1) := by decide +kernel
theorem dX7_most_85 : decode cX7_most 85 = .ok (.ireturn, 1) := by decide +kernel
theorem dX7_most_86 : decode cX7_most 86 = .ok (.iload_n 2, 1) := by decide +kernel
theorem dX7_most_87 : decode cX7_most 87 = .ok (.iconst (-1), 1) := by decide +kernel
theorem dX7_most_88 : decode cX7_most 88 = .ok (.if_icmp .eq 12, 3) := by decide +kernel
theorem dX7_most_91 : decode cX7_most 91 = .ok (.aload_n 0, 1) := by decide +kernel
theorem dX7_most_92 : decode cX7_most 92 = .ok (.getfield 38, 3) := by decide +kernel
theorem dX7_most_95 : decode cX7_most 95 = .ok (.iload_n 2, 1) := by decide +kernel
theorem dX7_most_96 : decode cX7_most 96 = .ok (.iaload, 1) := by decide +kernel
theorem dX7_most_97 : decode cX7_most 97 = .ok (.goto 20, 3) := by decide +kernel
theorem dX7_most_100 : decode cX7_most 100 = .ok (.iload_n 3, 1) := by decide +kernel
theorem dX7_most_101 : decode cX7_most 101 = .ok (.iconst (-1), 1) := by decide +kernel
theorem dX7_most_102 : decode cX7_most 102 = .ok (.if_icmp .eq 12, 3) := by decide +kernel
theorem dX7_most_105 : decode cX7_most 105 = .ok (.aload_n 0, 1) := by decide +kernel
theorem dX7_most_106 : decode cX7_most 106 = .ok (.getfield 38, 3) := by decide +kernel
theorem dX7_most_109 : decode cX7_most 109 = .ok (.iload_n 3, 1) := by decide +kernel
theorem dX7_most_110 : decode cX7_most 110 = .ok (.iaload, 1) := by decide +kernel
theorem dX7_most_111 : decode cX7_most 111 = .ok (.goto 6, 3) := by decide +kernel
theorem dX7_most_114 : decode cX7_most 114 = .ok (.sipush 3000, 3) := by decide +kernel
theorem dX7_most_117 : decode cX7_most 117 = .ok (.ireturn, 1) := by decide +kernel
theorem dX7_loadsOn_0 : decode cX7_loadsOn 0 = .ok (.iconst 0, 1) := by decide +kernel
theorem dX7_loadsOn_1 : decode cX7_loadsOn 1 = .ok (.istore_n 2, 1) := by decide +kernel
theorem dX7_loadsOn_2 : decode cX7_loadsOn 2 = .ok (.iconst 0, 1) := by decide +kernel
theorem dX7_loadsOn_3 : decode cX7_loadsOn 3 = .ok (.istore_n 3, 1) := by decide +kernel
theorem dX7_loadsOn_4 : decode cX7_loadsOn 4 = .ok (.iload_n 3, 1) := by decide +kernel
theorem dX7_loadsOn_5 : decode cX7_loadsOn 5 = .ok (.aload_n 0, 1) := by decide +kernel
theorem dX7_loadsOn_6 : decode cX7_loadsOn 6 = .ok (.getfield 91, 3) := by decide +kernel
theorem dX7_loadsOn_9 : decode cX7_loadsOn 9 = .ok (.if_icmp .ge 37, 3) := by decide +kernel
theorem dX7_loadsOn_12 : decode cX7_loadsOn 12 = .ok (.iload_n 2, 1) := by decide +kernel
theorem dX7_loadsOn_13 : decode cX7_loadsOn 13 = .ok (.aload_n 0, 1) := by decide +kernel
theorem dX7_loadsOn_14 : decode cX7_loadsOn 14 = .ok (.getfield 56, 3) := by decide +kernel
theorem dX7_loadsOn_17 : decode cX7_loadsOn 17 = .ok (.iload_n 3, 1) := by decide +kernel
theorem dX7_loadsOn_18 : decode cX7_loadsOn 18 = .ok (.iaload, 1) := by decide +kernel
theorem dX7_loadsOn_19 : decode cX7_loadsOn 19 = .ok (.iconst 1, 1) := by decide +kernel
theorem dX7_loadsOn_20 : decode cX7_loadsOn 20 = .ok (.if_icmp .ne 17, 3) := by decide +kernel
theorem dX7_loadsOn_23 : decode cX7_loadsOn 23 = .ok (.aload_n 0, 1) := by decide +kernel
theorem dX7_loadsOn_24 : decode cX7_loadsOn 24 = .ok (.getfield 59, 3) := by decide +kernel
theorem dX7_loadsOn_27 : decode cX7_loadsOn 27 = .ok (.iload_n 3, 1) := by decide +kernel
theorem dX7_loadsOn_28 : decode cX7_loadsOn 28 = .ok (.iaload, 1) := by decide +kernel
theorem dX7_loadsOn_29 : decode cX7_loadsOn 29 = .ok (.iload_n 1, 1) := by decide +kernel
theorem dX7_loadsOn_30 : decode cX7_loadsOn 30 = .ok (.if_icmp .ne 7, 3) := by decide +kernel
theorem dX7_loadsOn_33 : decode cX7_loadsOn 33 = .ok (.iconst 1, 1) := by decide +kernel
theorem dX7_loadsOn_34 : decode cX7_loadsOn 34 = .ok (.goto 4, 3) := by decide +kernel
theorem dX7_loadsOn_37 : decode cX7_loadsOn 37 = .ok (.iconst 0, 1) := by decide +kernel
theorem dX7_loadsOn_38 : decode cX7_loadsOn 38 = .ok (.iadd, 1) := by decide +kernel
theorem dX7_loadsOn_39 : decode cX7_loadsOn 39 = .ok (.istore_n 2, 1) := by decide +kernel
theorem dX7_loadsOn_40 : decode cX7_loadsOn 40 = .ok (.iinc 3 1, 3) := by decide +kernel
theorem dX7_loadsOn_43 : decode cX7_loadsOn 43 = .ok (.goto (-39), 3) := by decide +kernel
theorem dX7_loadsOn_46 : decode cX7_loadsOn 46 = .ok (.iload_n 2, 1) := by decide +kernel
theorem dX7_loadsOn_47 : decode cX7_loadsOn 47 = .ok (.ireturn, 1) := by decide +kernel
theorem dX7_look_0 : decode cX7_look 0 = .ok (.aload_n 0, 1) := by decide +kernel
theorem dX7_look_1 : decode cX7_look 1 = .ok (.iload_n 1, 1) := by decide +kernel
theorem dX7_look_2 : decode cX7_look 2 = .ok (.invokevirtual 98, 3) := by decide +kernel
theorem dX7_look_5 : decode cX7_look 5 = .ok (.ifCond .ne 10, 3) := by decide +kernel
theorem dX7_look_8 : decode cX7_look 8 = .ok (.aload_n 0, 1) := by decide +kernel
theorem dX7_look_9 : decode cX7_look 9 = .ok (.bipush (-3), 2) := by decide +kernel
theorem dX7_look_11 : decode cX7_look 11 = .ok (.invokevirtual 94, 3) := by decide +kernel
theorem dX7_look_14 : decode cX7_look 14 = .ok (.ireturn, 1) := by decide +kernel
theorem dX7_look_15 : decode cX7_look 15 = .ok (.iload_n 2, 1) := by decide +kernel
theorem dX7_look_16 : decode cX7_look 16 = .ok (.tableswitch 137 0 9 #[56, 63, 70, 77, 84, 91, 98, 119, 125, 131], 56) := by decide +kernel
theorem dX7_look_72 : decode cX7_look 72 = .ok (.aload_n 0, 1) := by decide +kernel
theorem dX7_look_73 : decode cX7_look 73 = .ok (.getfield 17, 3) := by decide +kernel
theorem dX7_look_76 : decode cX7_look 76 = .ok (.iload_n 1, 1) := by decide +kernel
theorem dX7_look_77 : decode cX7_look 77 = .ok (.iaload, 1) := by decide +kernel
theorem dX7_look_78 : decode cX7_look 78 = .ok (.ireturn, 1) := by decide +kernel
theorem dX7_look_79 : decode cX7_look 79 = .ok (.aload_n 0, 1) := by decide +kernel
theorem dX7_look_80 : decode cX7_look 80 = .ok (.getfield 20, 3) := by decide +kernel
theorem dX7_look_83 : decode cX7_look 83 = .ok (.iload_n 1, 1) := by decide +kernel
theorem dX7_look_84 : decode cX7_look 84 = .ok (.iaload, 1) := by decide +kernel
theorem dX7_look_85 : decode cX7_look 85 = .ok (.ireturn, 1) := by decide +kernel
theorem dX7_look_86 : decode cX7_look 86 = .ok (.aload_n 0, 1) := by decide +kernel
theorem dX7_look_87 : decode cX7_look 87 = .ok (.getfield 23, 3) := by decide +kernel
theorem dX7_look_90 : decode cX7_look 90 = .ok (.iload_n 1, 1) := by decide +kernel
theorem dX7_look_91 : decode cX7_look 91 = .ok (.iaload, 1) := by decide +kernel
theorem dX7_look_92 : decode cX7_look 92 = .ok (.ireturn, 1) := by decide +kernel
theorem dX7_look_93 : decode cX7_look 93 = .ok (.aload_n 0, 1) := by decide +kernel
theorem dX7_look_94 : decode cX7_look 94 = .ok (.getfield 26, 3) := by decide +kernel
theorem dX7_look_97 : decode cX7_look 97 = .ok (.iload_n 1, 1) := by decide +kernel
theorem dX7_look_98 : decode cX7_look 98 = .ok (.iaload, 1) := by decide +kernel
theorem dX7_look_99 : decode cX7_look 99 = .ok (.ireturn, 1) := by decide +kernel
theorem dX7_look_100 : decode cX7_look 100 = .ok (.aload_n 0, 1) := by decide +kernel
theorem dX7_look_101 : decode cX7_look 101 = .ok (.getfield 29, 3) := by decide +kernel
theorem dX7_look_104 : decode cX7_look 104 = .ok (.iload_n 1, 1) := by decide +kernel
theorem dX7_look_105 : decode cX7_look 105 = .ok (.iaload, 1) := by decide +kernel
theorem dX7_look_106 : decode cX7_look 106 = .ok (.ireturn, 1) := by decide +kernel
theorem dX7_look_107 : decode cX7_look 107 = .ok (.aload_n 0, 1) := by decide +kernel
theorem dX7_look_108 : decode cX7_look 108 = .ok (.getfield 32, 3) := by decide +kernel
theorem dX7_look_111 : decode cX7_look 111 = .ok (.iload_n 1, 1) := by decide +kernel
theorem dX7_look_112 : decode cX7_look 112 = .ok (.iaload, 1) := by decide +kernel
theorem dX7_look_113 : decode cX7_look 113 = .ok (.ireturn, 1) := by decide +kernel
theorem dX7_look_114 : decode cX7_look 114 = .ok (.aload_n 0, 1) := by decide +kernel
theorem dX7_look_115 : decode cX7_look 115 = .ok (.getfield 17, 3) := by decide +kernel
theorem dX7_look_118 : decode cX7_look 118 = .ok (.iload_n 1, 1) := by decide +kernel
theorem dX7_look_119 : decode cX7_look 119 = .ok (.iaload, 1) := by decide +kernel
theorem dX7_look_120 : decode cX7_look 120 = .ok (.iconst 3, 1) := by decide +kernel
theorem dX7_look_121 : decode cX7_look 121 = .ok (.if_icmp .ne 12, 3) := by decide +kernel
theorem dX7_look_124 : decode cX7_look 124 = .ok (.aload_n 0, 1) := by decide +kernel
theorem dX7_look_125 : decode cX7_look 125 = .ok (.getfield 35, 3) := by decide +kernel
theorem dX7_look_128 : decode cX7_look 128 = .ok (.iload_n 1, 1) := by decide +kernel
theorem dX7_look_129 : decode cX7_look 129 = .ok (.iaload, 1) := by decide +kernel
theorem dX7_look_130 : decode cX7_look 130 = .ok (.goto 4, 3) := by decide +kernel
theorem dX7_look_133 : decode cX7_look 133 = .ok (.iconst (-1), 1) := by decide +kernel
theorem dX7_look_134 : decode cX7_look 134 = .ok (.ireturn, 1) := by decide +kernel
theorem dX7_look_135 : decode cX7_look 135 = .ok (.aload_n 0, 1) := by decide +kernel
theorem dX7_look_136 : decode cX7_look 136 = .ok (.iload_n 1, 1) := by decide +kernel
theorem dX7_look_137 : decode cX7_look 137 = .ok (.invokevirtual 106, 3) := by decide +kernel
theorem dX7_look_140 : decode cX7_look 140 = .ok (.ireturn, 1) := by decide +kernel
theorem dX7_look_141 : decode cX7_look 141 = .ok (.aload_n 0, 1) := by decide +kernel
theorem dX7_look_142 : decode cX7_look 142 = .ok (.iload_n 1, 1) := by decide +kernel
theorem dX7_look_143 : decode cX7_look 143 = .ok (.invokevirtual 109, 3) := by decide +kernel
theorem dX7_look_146 : decode cX7_look 146 = .ok (.ireturn, 1) := by decide +kernel
theorem dX7_look_147 : decode cX7_look 147 = .ok (.aload_n 0, 1) := by decide +kernel
theorem dX7_look_148 : decode cX7_look 148 = .ok (.iload_n 1, 1) := by decide +kernel
theorem dX7_look_149 : decode cX7_look 149 = .ok (.invokevirtual 112, 3) := by decide +kernel
theorem dX7_look_152 : decode cX7_look 152 = .ok (.ireturn, 1) := by decide +kernel
theorem dX7_look_153 : decode cX7_look 153 = .ok (.aload_n 0, 1) := by decide +kernel
theorem dX7_look_154 : decode cX7_look 154 = .ok (.bipush (-7), 2) := by decide +kernel
theorem dX7_look_156 : decode cX7_look 156 = .ok (.invokevirtual 94, 3) := by decide +kernel
theorem dX7_look_159 : decode cX7_look 159 = .ok (.ireturn, 1) := by decide +kernel
theorem dX7_thick_0 : decode cX7_thick 0 = .ok (.aload_n 0, 1) := by decide +kernel
theorem dX7_thick_1 : decode cX7_thick 1 = .ok (.iload_n 1, 1) := by decide +kernel
theorem dX7_thick_2 : decode cX7_thick 2 = .ok (.invokevirtual 98, 3) := by decide +kernel
theorem dX7_thick_5 : decode cX7_thick 5 = .ok (.ifCond .ne 10, 3) := by decide +kernel
theorem dX7_thick_8 : decode cX7_thick 8 = .ok (.aload_n 0, 1) := by decide +kernel
theorem dX7_thick_9 : decode cX7_thick 9 = .ok (.bipush (-3), 2) := by decide +kernel
theorem dX7_thick_11 : decode cX7_thick 11 = .ok (.invokevirtual 94, 3) := by decide +kernel
theorem dX7_thick_14 : decode cX7_thick 14 = .ok (.ireturn, 1) := by decide +kernel
theorem dX7_thick_15 : decode cX7_thick 15 = .ok (.aload_n 0, 1) := by decide +kernel
theorem dX7_thick_16 : decode cX7_thick 16 = .ok (.getfield 17, 3) := by decide +kernel
theorem dX7_thick_19 : decode cX7_thick 19 = .ok (.iload_n 1, 1) := by decide +kernel
theorem dX7_thick_20 : decode cX7_thick 20 = .ok (.iaload, 1) := by decide +kernel
theorem dX7_thick_21 : decode cX7_thick 21 = .ok (.iconst 4, 1) := by decide +kernel
theorem dX7_thick_22 : decode cX7_thick 22 = .ok (.if_icmp .ne 10, 3) := by decide +kernel
theorem dX7_thick_25 : decode cX7_thick 25 = .ok (.aload_n 0, 1) := by decide +kernel
theorem dX7_thick_26 : decode cX7_thick 26 = .ok (.bipush (-5), 2) := by decide +kernel
theorem dX7_thick_28 : decode cX7_thick 28 = .ok (.invokevirtual 94, 3) := by decide +kernel
theorem dX7_thick_31 : decode cX7_thick 31 = .ok (.ireturn, 1) := by decide +kernel
theorem dX7_thick_32 : decode cX7_thick 32 = .ok (.iload_n 2, 1) := by decide +kernel
theorem dX7_thick_33 : decode cX7_thick 33 = .ok (.iconst 0, 1) := by decide +kernel
theorem dX7_thick_34 : decode cX7_thick 34 = .ok (.sipush 3000, 3) := by decide +kernel
theorem dX7_thick_37 : decode cX7_thick 37 = .ok (.invokestatic 87, 3) := by decide +kernel
theorem dX7_thick_40 : decode cX7_thick 40 = .ok (.ifCond .ne 10, 3) := by decide +kernel
theorem dX7_thick_43 : decode cX7_thick 43 = .ok (.aload_n 0, 1) := by decide +kernel
theorem dX7_thick_44 : decode cX7_thick 44 = .ok (.bipush (-7), 2) := by decide +kernel
theorem dX7_thick_46 : decode cX7_thick 46 = .ok (.invokevirtual 94, 3) := by decide +kernel
theorem dX7_thick_49 : decode cX7_thick 49 = .ok (.ireturn, 1) := by decide +kernel
theorem dX7_thick_50 : decode cX7_thick 50 = .ok (.aload_n 0, 1) := by decide +kernel
theorem dX7_thick_51 : decode cX7_thick 51 = .ok (.getfield 20, 3) := by decide +kernel
theorem dX7_thick_54 : decode cX7_thick 54 = .ok (.iload_n 1, 1) := by decide +kernel
theorem dX7_thick_55 : decode cX7_thick 55 = .ok (.iaload, 1) := by decide +kernel
theorem dX7_thick_56 : decode cX7_thick 56 = .ok (.istore_n 3, 1) := by decide +kernel
theorem dX7_thick_57 : decode cX7_thick 57 = .ok (.aload_n 0, 1) := by decide +kernel
theorem dX7_thick_58 : decode cX7_thick 58 = .ok (.getfield 20, 3) := by decide +kernel
theorem dX7_thick_61 : decode cX7_thick 61 = .ok (.iload_n 1, 1) := by decide +kernel
theorem dX7_thick_62 : decode cX7_thick 62 = .ok (.iload_n 2, 1) := by decide +kernel
theorem dX7_thick_63 : decode cX7_thick 63 = .ok (.iastore, 1) := by decide +kernel
theorem dX7_thick_64 : decode cX7_thick 64 = .ok (.iload_n 3, 1) := by decide +kernel
theorem dX7_thick_65 : decode cX7_thick 65 = .ok (.ireturn, 1) := by decide +kernel
theorem dX7_read_0 : decode cX7_read 0 = .ok (.aload_n 0, 1) := by decide +kernel
theorem dX7_read_1 : decode cX7_read 1 = .ok (.iload_n 1, 1) := by decide +kernel
theorem dX7_read_2 : decode cX7_read 2 = .ok (.invokevirtual 98, 3) := by decide +kernel
theorem dX7_read_5 : decode cX7_read 5 = .ok (.ifCond .ne 10, 3) := by decide +kernel
theorem dX7_read_8 : decode cX7_read 8 = .ok (.aload_n 0, 1) := by decide +kernel
theorem dX7_read_9 : decode cX7_read 9 = .ok (.bipush (-3), 2) := by decide +kernel
theorem dX7_read_11 : decode cX7_read 11 = .ok (.invokevirtual 94, 3) := by decide +kernel
theorem dX7_read_14 : decode cX7_read 14 = .ok (.ireturn, 1) := by decide +kernel
theorem dX7_read_15 : decode cX7_read 15 = .ok (.aload_n 0, 1) := by decide +kernel
theorem dX7_read_16 : decode cX7_read 16 = .ok (.getfield 17, 3) := by decide +kernel
theorem dX7_read_19 : decode cX7_read 19 = .ok (.iload_n 1, 1) := by decide +kernel
theorem dX7_read_20 : decode cX7_read 20 = .ok (.iaload, 1) := by decide +kernel
theorem dX7_read_21 : decode cX7_read 21 = .ok (.iconst 4, 1) := by decide +kernel
theorem dX7_read_22 : decode cX7_read 22 = .ok (.if_icmp .ne 10, 3) := by decide +kernel
theorem dX7_read_25 : decode cX7_read 25 = .ok (.aload_n 0, 1) := by decide +kernel
theorem dX7_read_26 : decode cX7_read 26 = .ok (.bipush (-5), 2) := by decide +kernel
theorem dX7_read_28 : decode cX7_read 28 = .ok (.invokevirtual 94, 3) := by decide +kernel
theorem dX7_read_31 : decode cX7_read 31 = .ok (.ireturn, 1) := by decide +kernel
theorem dX7_read_32 : decode cX7_read 32 = .ok (.aload_n 0, 1) := by decide +kernel
theorem dX7_read_33 : decode cX7_read 33 = .ok (.getfield 38, 3) := by decide +kernel
theorem dX7_read_36 : decode cX7_read 36 = .ok (.iload_n 1, 1) := by decide +kernel
theorem dX7_read_37 : decode cX7_read 37 = .ok (.aload_n 0, 1) := by decide +kernel
theorem dX7_read_38 : decode cX7_read 38 = .ok (.getfield 20, 3) := by decide +kernel
theorem dX7_read_41 : decode cX7_read 41 = .ok (.iload_n 1, 1) := by decide +kernel
theorem dX7_read_42 : decode cX7_read 42 = .ok (.iaload, 1) := by decide +kernel
theorem dX7_read_43 : decode cX7_read 43 = .ok (.iastore, 1) := by decide +kernel
theorem dX7_read_44 : decode cX7_read 44 = .ok (.aload_n 0, 1) := by decide +kernel
theorem dX7_read_45 : decode cX7_read 45 = .ok (.getfield 38, 3) := by decide +kernel
theorem dX7_read_48 : decode cX7_read 48 = .ok (.iload_n 1, 1) := by decide +kernel
theorem dX7_read_49 : decode cX7_read 49 = .ok (.iaload, 1) := by decide +kernel
theorem dX7_read_50 : decode cX7_read 50 = .ok (.ireturn, 1) := by decide +kernel
theorem dX7_isBorne_0 : decode cX7_isBorne 0 = .ok (.aload_n 0, 1) := by decide +kernel
theorem dX7_isBorne_1 : decode cX7_isBorne 1 = .ok (.getfield 17, 3) := by decide +kernel
theorem dX7_isBorne_4 : decode cX7_isBorne 4 = .ok (.iload_n 1, 1) := by decide +kernel
theorem dX7_isBorne_5 : decode cX7_isBorne 5 = .ok (.iaload, 1) := by decide +kernel
theorem dX7_isBorne_6 : decode cX7_isBorne 6 = .ok (.iconst 4, 1) := by decide +kernel
theorem dX7_isBorne_7 : decode cX7_isBorne 7 = .ok (.if_icmp .eq 40, 3) := by decide +kernel
theorem dX7_isBorne_10 : decode cX7_isBorne 10 = .ok (.aload_n 0, 1) := by decide +kernel
theorem dX7_isBorne_11 : decode cX7_isBorne 11 = .ok (.getfield 20, 3) := by decide +kernel
theorem dX7_isBorne_14 : decode cX7_isBorne 14 = .ok (.iload_n 1, 1) := by decide +kernel
theorem dX7_isBorne_15 : decode cX7_isBorne 15 = .ok (.iaload, 1) := by decide +kernel
theorem dX7_isBorne_16 : decode cX7_isBorne 16 = .ok (.aload_n 0, 1) := by decide +kernel
theorem dX7_isBorne_17 : decode cX7_isBorne 17 = .ok (.getfield 20, 3) := by decide +kernel
theorem dX7_isBorne_20 : decode cX7_isBorne 20 = .ok (.iload_n 1, 1) := by decide +kernel
theorem dX7_isBorne_21 : decode cX7_isBorne 21 = .ok (.iaload, 1) := by decide +kernel
theorem dX7_isBorne_22 : decode cX7_isBorne 22 = .ok (.imul, 1) := by decide +kernel
theorem dX7_isBorne_23 : decode cX7_isBorne 23 = .ok (.sipush 10000, 3) := by decide +kernel
theorem dX7_isBorne_26 : decode cX7_isBorne 26 = .ok (.idiv, 1) := by decide +kernel
theorem dX7_isBorne_27 : decode cX7_isBorne 27 = .ok (.aload_n 0, 1) := by decide +kernel
theorem dX7_isBorne_28 : decode cX7_isBorne 28 = .ok (.getfield 17, 3) := by decide +kernel
theorem dX7_isBorne_31 : decode cX7_isBorne 31 = .ok (.iload_n 1, 1) := by decide +kernel
theorem dX7_isBorne_32 : decode cX7_isBorne 32 = .ok (.iaload, 1) := by decide +kernel
theorem dX7_isBorne_33 : decode cX7_isBorne 33 = .ok (.iconst 3, 1) := by decide +kernel
theorem dX7_isBorne_34 : decode cX7_isBorne 34 = .ok (.if_icmp .ne 9, 3) := by decide +kernel
theorem dX7_isBorne_37 : decode cX7_isBorne 37 = .ok (.iconst 2, 1) := by decide +kernel
theorem dX7_isBorne_38 : decode cX7_isBorne 38 = .ok (.iload_n 2, 1) := by decide +kernel
theorem dX7_isBorne_39 : decode cX7_isBorne 39 = .ok (.imul, 1) := by decide +kernel
theorem dX7_isBorne_40 : decode cX7_isBorne 40 = .ok (.goto 4, 3) := by decide +kernel
theorem dX7_isBorne_43 : decode cX7_isBorne 43 = .ok (.iload_n 2, 1) := by decide +kernel
theorem dX7_isBorne_44 : decode cX7_isBorne 44 = .ok (.if_icmp .lt 7, 3) := by decide +kernel
theorem dX7_isBorne_47 : decode cX7_isBorne 47 = .ok (.iconst 1, 1) := by decide +kernel
theorem dX7_isBorne_48 : decode cX7_isBorne 48 = .ok (.goto 4, 3) := by decide +kernel
theorem dX7_isBorne_51 : decode cX7_isBorne 51 = .ok (.iconst 0, 1) := by decide +kernel
theorem dX7_isBorne_52 : decode cX7_isBorne 52 = .ok (.ireturn, 1) := by decide +kernel
theorem dX7_bears_0 : decode cX7_bears 0 = .ok (.aload_n 0, 1) := by decide +kernel
theorem dX7_bears_1 : decode cX7_bears 1 = .ok (.iload_n 1, 1) := by decide +kernel
theorem dX7_bears_2 : decode cX7_bears 2 = .ok (.invokevirtual 98, 3) := by decide +kernel
theorem dX7_bears_5 : decode cX7_bears 5 = .ok (.ifCond .ne 10, 3) := by decide +kernel
theorem dX7_bears_8 : decode cX7_bears 8 = .ok (.aload_n 0, 1) := by decide +kernel
theorem dX7_bears_9 : decode cX7_bears 9 = .ok (.bipush (-3), 2) := by decide +kernel
theorem dX7_bears_11 : decode cX7_bears 11 = .ok (.invokevirtual 94, 3) := by decide +kernel
theorem dX7_bears_14 : decode cX7_bears 14 = .ok (.ireturn, 1) := by decide +kernel
theorem dX7_bears_15 : decode cX7_bears 15 = .ok (.iload_n 2, 1) := by decide +kernel
theorem dX7_bears_16 : decode cX7_bears 16 = .ok (.iconst 1, 1) := by decide +kernel
theorem dX7_bears_17 : decode cX7_bears 17 = .ok (.bipush 99, 2) := by decide +kernel
theorem dX7_bears_19 : decode cX7_bears 19 = .ok (.invokestatic 87, 3) := by decide +kernel
theorem dX7_bears_22 : decode cX7_bears 22 = .ok (.ifCond .ne 10, 3) := by decide +kernel
theorem dX7_bears_25 : decode cX7_bears 25 = .ok (.aload_n 0, 1) := by decide +kernel
theorem dX7_bears_26 : decode cX7_bears 26 = .ok (.bipush (-7), 2) := by decide +kernel
theorem dX7_bears_28 : decode cX7_bears 28 = .ok (.invokevirtual 94, 3) := by decide +kernel
theorem dX7_bears_31 : decode cX7_bears 31 = .ok (.ireturn, 1) := by decide +kernel
theorem dX7_bears_32 : decode cX7_bears 32 = .ok (.aload_n 0, 1) := by decide +kernel
theorem dX7_bears_33 : decode cX7_bears 33 = .ok (.iload_n 1, 1) := by decide +kernel
theorem dX7_bears_34 : decode cX7_bears 34 = .ok (.iload_n 2, 1) := by decide +kernel
theorem dX7_bears_35 : decode cX7_bears 35 = .ok (.invokevirtual 115, 3) := by decide +kernel
theorem dX7_bears_38 : decode cX7_bears 38 = .ok (.ifCond .eq 7, 3) := by decide +kernel
theorem dX7_bears_41 : decode cX7_bears 41 = .ok (.iconst 1, 1) := by decide +kernel
theorem dX7_bears_42 : decode cX7_bears 42 = .ok (.goto 4, 3) := by decide +kernel
theorem dX7_bears_45 : decode cX7_bears 45 = .ok (.iconst 0, 1) := by decide +kernel
theorem dX7_bears_46 : decode cX7_bears 46 = .ok (.ireturn, 1) := by decide +kernel
theorem dX7_weather_0 : decode cX7_weather 0 = .ok (.iload_n 1, 1) := by decide +kernel
theorem dX7_weather_1 : decode cX7_weather 1 = .ok (.iconst 0, 1) := by decide +kernel
theorem dX7_weather_2 : decode cX7_weather 2 = .ok (.bipush 47, 2) := by decide +kernel
theorem dX7_weather_4 : decode cX7_weather 4 = .ok (.invokestatic 87, 3) := by decide +kernel
theorem dX7_weather_7 : decode cX7_weather 7 = .ok (.ifCond .ne 10, 3) := by decide +kernel
theorem dX7_weather_10 : decode cX7_weather 10 = .ok (.aload_n 0, 1) := by decide +kernel
theorem dX7_weather_11 : decode cX7_weather 11 = .ok (.bipush (-3), 2) := by decide +kernel
theorem dX7_weather_13 : decode cX7_weather 13 = .ok (.invokevirtual 119, 3) := by decide +kernel
theorem dX7_weather_16 : decode cX7_weather 16 = .ok (.ireturn, 1) := by decide +kernel
theorem dX7_weather_17 : decode cX7_weather 17 = .ok (.iload_n 2, 1) := by decide +kernel
theorem dX7_weather_18 : decode cX7_weather 18 = .ok (.sipush (-9999), 3) := by decide +kernel
theorem dX7_weather_21 : decode cX7_weather 21 = .ok (.if_icmp .eq 23, 3) := by decide +kernel
theorem dX7_weather_24 : decode cX7_weather 24 = .ok (.iload_n 2, 1) := by decide +kernel
theorem dX7_weather_25 : decode cX7_weather 25 = .ok (.sipush (-600), 3) := by decide +kernel
theorem dX7_weather_28 : decode cX7_weather 28 = .ok (.sipush 300, 3) := by decide +kernel
theorem dX7_weather_31 : decode cX7_weather 31 = .ok (.invokestatic 87, 3) := by decide +kernel
theorem dX7_weather_34 : decode cX7_weather 34 = .ok (.ifCond .ne 10, 3) := by decide +kernel
theorem dX7_weather_37 : decode cX7_weather 37 = .ok (.aload_n 0, 1) := by decide +kernel
theorem dX7_weather_38 : decode cX7_weather 38 = .ok (.bipush (-7), 2) := by decide +kernel
theorem dX7_weather_40 : decode cX7_weather 40 = .ok (.invokevirtual 119, 3) := by decide +kernel
theorem dX7_weather_43 : decode cX7_weather 43 = .ok (.ireturn, 1) := by decide +kernel
theorem dX7_weather_44 : decode cX7_weather 44 = .ok (.aload_n 0, 1) := by decide +kernel
theorem dX7_weather_45 : decode cX7_weather 45 = .ok (.getfield 44, 3) := by decide +kernel
theorem dX7_weather_48 : decode cX7_weather 48 = .ok (.iload_n 1, 1) := by decide +kernel
theorem dX7_weather_49 : decode cX7_weather 49 = .ok (.iaload, 1) := by decide +kernel
theorem dX7_weather_50 : decode cX7_weather 50 = .ok (.istore_n 3, 1) := by decide +kernel
theorem dX7_weather_51 : decode cX7_weather 51 = .ok (.aload_n 0, 1) := by decide +kernel
theorem dX7_weather_52 : decode cX7_weather 52 = .ok (.getfield 44, 3) := by decide +kernel
theorem dX7_weather_55 : decode cX7_weather 55 = .ok (.iload_n 1, 1) := by decide +kernel
theorem dX7_weather_56 : decode cX7_weather 56 = .ok (.iload_n 2, 1) := by decide +kernel
theorem dX7_weather_57 : decode cX7_weather 57 = .ok (.iastore, 1) := by decide +kernel
theorem dX7_weather_58 : decode cX7_weather 58 = .ok (.iload_n 3, 1) := by decide +kernel
theorem dX7_weather_59 : decode cX7_weather 59 = .ok (.ireturn, 1) := by decide +kernel
theorem dX7_heatOf_0 : decode cX7_heatOf 0 = .ok (.iload_n 1, 1) := by decide +kernel
theorem dX7_heatOf_1 : decode cX7_heatOf 1 = .ok (.bipush 48, 2) := by decide +kernel
theorem dX7_heatOf_3 : decode cX7_heatOf 3 = .ok (.irem, 1) := by decide +kernel
theorem dX7_heatOf_4 : decode cX7_heatOf 4 = .ok (.istore_n 2, 1) := by decide +kernel
theorem dX7_heatOf_5 : decode cX7_heatOf 5 = .ok (.aload_n 0, 1) := by decide +kernel
theorem dX7_heatOf_6 : decode cX7_heatOf 6 = .ok (.getfield 44, 3) := by decide +kernel
theorem dX7_heatOf_9 : decode cX7_heatOf 9 = .ok (.iload_n 2, 1) := by decide +kernel
theorem dX7_heatOf_10 : decode cX7_heatOf 10 = .ok (.iaload, 1) := by decide +kernel
theorem dX7_heatOf_11 : decode cX7_heatOf 11 = .ok (.sipush (-9999), 3) := by decide +kernel
theorem dX7_heatOf_14 : decode cX7_heatOf 14 = .ok (.if_icmp .eq 10, 3) := by decide +kernel
theorem dX7_heatOf_17 : decode cX7_heatOf 17 = .ok (.aload_n 0, 1) := by decide +kernel
theorem dX7_heatOf_18 : decode cX7_heatOf 18 = .ok (.getfield 44, 3) := by decide +kernel
theorem dX7_heatOf_21 : decode cX7_heatOf 21 = .ok (.iload_n 2, 1) := by decide +kernel
theorem dX7_heatOf_22 : decode cX7_heatOf 22 = .ok (.iaload, 1) := by decide +kernel
theorem dX7_heatOf_23 : decode cX7_heatOf 23 = .ok (.ireturn, 1) := by decide +kernel
theorem dX7_heatOf_24 : decode cX7_heatOf 24 = .ok (.sipush (-9999), 3) := by decide +kernel
theorem dX7_heatOf_27 : decode cX7_heatOf 27 = .ok (.istore_n 3, 1) := by decide +kernel
theorem dX7_heatOf_28 : decode cX7_heatOf 28 = .ok (.sipush (-9999), 3) := by decide +kernel
theorem dX7_heatOf_31 : decode cX7_heatOf 31 = .ok (.istore 4, 2) := by decide +kernel
theorem dX7_heatOf_33 : decode cX7_heatOf 33 = .ok (.iconst 1, 1) := by decide +kernel
theorem dX7_heatOf_34 : decode cX7_heatOf 34 = .ok (.istore 5, 2) := by decide +kernel
theorem dX7_heatOf_36 : decode cX7_heatOf 36 = .ok (.iload 5, 2) := by decide +kernel
theorem dX7_heatOf_38 : decode cX7_heatOf 38 = .ok (.bipush 48, 2) := by decide +kernel
theorem dX7_heatOf_40 : decode cX7_heatOf 40 = .ok (.if_icmp .ge 71, 3) := by decide +kernel
theorem dX7_heatOf_43 : decode cX7_heatOf 43 = .ok (.aload_n 0, 1) := by decide +kernel
theorem dX7_heatOf_44 : decode cX7_heatOf 44 = .ok (.getfield 44, 3) := by decide +kernel
theorem dX7_heatOf_47 : decode cX7_heatOf 47 = .ok (.iload_n 2, 1) := by decide +kernel
theorem dX7_heatOf_48 : decode cX7_heatOf 48 = .ok (.bipush 48, 2) := by decide +kernel
theorem dX7_heatOf_50 : decode cX7_heatOf 50 = .ok (.iadd, 1) := by decide +kernel
theorem dX7_heatOf_51 : decode cX7_heatOf 51 = .ok (.iload 5, 2) := by decide +kernel
theorem dX7_heatOf_53 : decode cX7_heatOf 53 = .ok (.isub, 1) := by decide +kernel
theorem dX7_heatOf_54 : decode cX7_heatOf 54 = .ok (.bipush 48, 2) := by decide +kernel
theorem dX7_heatOf_56 : decode cX7_heatOf 56 = .ok (.irem, 1) := by decide +kernel
theorem dX7_heatOf_57 : decode cX7_heatOf 57 = .ok (.iaload, 1) := by decide +kernel
theorem dX7_heatOf_58 : decode cX7_heatOf 58 = .ok (.istore 6, 2) := by decide +kernel
theorem dX7_heatOf_60 : decode cX7_heatOf 60 = .ok (.aload_n 0, 1) := by decide +kernel
theorem dX7_heatOf_61 : decode cX7_heatOf 61 = .ok (.getfield 44, 3) := by decide +kernel
theorem dX7_heatOf_64 : decode cX7_heatOf 64 = .ok (.iload_n 2, 1) := by decide +kernel
theorem dX7_heatOf_65 : decode cX7_heatOf 65 = .ok (.iload 5, 2) := by decide +kernel
theorem dX7_heatOf_67 : decode cX7_heatOf 67 = .ok (.iadd, 1) := by decide +kernel
theorem dX7_heatOf_68 : decode cX7_heatOf 68 = .ok (.bipush 48, 2) := by decide +kernel
theorem dX7_heatOf_70 : decode cX7_heatOf 70 = .ok (.irem, 1) := by decide +kernel
theorem dX7_heatOf_71 : decode cX7_heatOf 71 = .ok (.iaload, 1) := by decide +kernel
theorem dX7_heatOf_72 : decode cX7_heatOf 72 = .ok (.istore 7, 2) := by decide +kernel
theorem dX7_heatOf_74 : decode cX7_heatOf 74 = .ok (.iload_n 3, 1) := by decide +kernel
theorem dX7_heatOf_75 : decode cX7_heatOf 75 = .ok (.sipush (-9999), 3) := by decide +kernel
theorem dX7_heatOf_78 : decode cX7_heatOf 78 = .ok (.if_icmp .ne 8, 3) := by decide +kernel
theorem dX7_heatOf_81 : decode cX7_heatOf 81 = .ok (.iload 6, 2) := by decide +kernel
theorem dX7_heatOf_83 : decode cX7_heatOf 83 = .ok (.goto 4, 3) := by decide +kernel
theorem dX7_heatOf_86 : decode cX7_heatOf 86 = .ok (.iload_n 3, 1) := by decide +kernel
theorem dX7_heatOf_87 : decode cX7_heatOf 87 = .ok (.istore_n 3, 1) := by decide +kernel
theorem dX7_heatOf_88 : decode cX7_heatOf 88 = .ok (.iload 4, 2) := by decide +kernel
theorem dX7_heatOf_90 : decode cX7_heatOf 90 = .ok (.sipush (-9999), 3) := by decide +kernel
theorem dX7_heatOf_93 : decode cX7_heatOf 93 = .ok (.if_icmp .ne 8, 3) := by decide +kernel
theorem dX7_heatOf_96 : decode cX7_heatOf 96 = .ok (.iload 7, 2) := by decide +kernel
theorem dX7_heatOf_98 : decode cX7_heatOf 98 = .ok (.goto 5, 3) := by decide +kernel
theorem dX7_heatOf_101 : decode cX7_heatOf 101 = .ok (.iload 4, 2) := by decide +kernel
theorem dX7_heatOf_103 : decode cX7_heatOf 103 = .ok (.istore 4, 2) := by decide +kernel
theorem dX7_heatOf_105 : decode cX7_heatOf 105 = .ok (.iinc 5 1, 3) := by decide +kernel
theorem dX7_heatOf_108 : decode cX7_heatOf 108 = .ok (.goto (-72), 3) := by decide +kernel
theorem dX7_heatOf_111 : decode cX7_heatOf 111 = .ok (.iload_n 3, 1) := by decide +kernel
theorem dX7_heatOf_112 : decode cX7_heatOf 112 = .ok (.sipush (-9999), 3) := by decide +kernel
theorem dX7_heatOf_115 : decode cX7_heatOf 115 = .ok (.if_icmp .ne 8, 3) := by decide +kernel
theorem dX7_heatOf_118 : decode cX7_heatOf 118 = .ok (.bipush (-100), 2) := by decide +kernel
theorem dX7_heatOf_120 : decode cX7_heatOf 120 = .ok (.goto 15, 3) := by decide +kernel
theorem dX7_heatOf_123 : decode cX7_heatOf 123 = .ok (.iload_n 3, 1) := by decide +kernel
theorem dX7_heatOf_124 : decode cX7_heatOf 124 = .ok (.iload 4, 2) := by decide +kernel
theorem dX7_heatOf_126 : decode cX7_heatOf 126 = .ok (.if_icmp .le 7, 3) := by decide +kernel
theorem dX7_heatOf_129 : decode cX7_heatOf 129 = .ok (.iload_n 3, 1) := by decide +kernel
theorem dX7_heatOf_130 : decode cX7_heatOf 130 = .ok (.goto 5, 3) := by decide +kernel
theorem dX7_heatOf_133 : decode cX7_heatOf 133 = .ok (.iload 4, 2) := by decide +kernel
theorem dX7_heatOf_135 : decode cX7_heatOf 135 = .ok (.ireturn, 1) := by decide +kernel
theorem dX7_heat_0 : decode cX7_heat 0 = .ok (.iload_n 1, 1) := by decide +kernel
theorem dX7_heat_1 : decode cX7_heat 1 = .ok (.ifCond .ge 12, 3) := by decide +kernel
theorem dX7_heat_4 : decode cX7_heat 4 = .ok (.aload_n 0, 1) := by decide +kernel
theorem dX7_heat_5 : decode cX7_heat 5 = .ok (.bipush (-3), 2) := by decide +kernel
theorem dX7_heat_7 : decode cX7_heat 7 = .ok (.invokevirtual 119, 3) := by decide +kernel
theorem dX7_heat_10 : decode cX7_heat 10 = .ok (.goto 8, 3) := by decide +kernel
theorem dX7_heat_13 : decode cX7_heat 13 = .ok (.aload_n 0, 1) := by decide +kernel
theorem dX7_heat_14 : decode cX7_heat 14 = .ok (.iload_n 1, 1) := by decide +kernel
theorem dX7_heat_15 : decode cX7_heat 15 = .ok (.invokevirtual 122, 3) := by decide +kernel
theorem dX7_heat_18 : decode cX7_heat 18 = .ok (.ireturn, 1) := by decide +kernel
theorem dX7_sweep_0 : decode cX7_sweep 0 = .ok (.aload_n 0, 1) := by decide +kernel
theorem dX7_sweep_1 : decode cX7_sweep 1 = .ok (.iload_n 1, 1) := by decide +kernel
theorem dX7_sweep_2 : decode cX7_sweep 2 = .ok (.invokevirtual 98, 3) := by decide +kernel
theorem dX7_sweep_5 : decode cX7_sweep 5 = .ok (.ifCond .ne 10, 3) := by decide +kernel
theorem dX7_sweep_8 : decode cX7_sweep 8 = .ok (.aload_n 0, 1) := by decide +kernel
theorem dX7_sweep_9 : decode cX7_sweep 9 = .ok (.bipush (-3), 2) := by decide +kernel
theorem dX7_sweep_11 : decode cX7_sweep 11 = .ok (.invokevirtual 94, 3) := by decide +kernel
theorem dX7_sweep_14 : decode cX7_sweep 14 = .ok (.ireturn, 1) := by decide +kernel
theorem dX7_sweep_15 : decode cX7_sweep 15 = .ok (.aload_n 0, 1) := by decide +kernel
theorem dX7_sweep_16 : decode cX7_sweep 16 = .ok (.getfield 17, 3) := by decide +kernel
theorem dX7_sweep_19 : decode cX7_sweep 19 = .ok (.iload_n 1, 1) := by decide +kernel
theorem dX7_sweep_20 : decode cX7_sweep 20 = .ok (.iaload, 1) := by decide +kernel
theorem dX7_sweep_21 : decode cX7_sweep 21 = .ok (.ifCond .eq 20, 3) := by decide +kernel
theorem dX7_sweep_24 : decode cX7_sweep 24 = .ok (.aload_n 0, 1) := by decide +kernel
theorem dX7_sweep_25 : decode cX7_sweep 25 = .ok (.getfield 17, 3) := by decide +kernel
theorem dX7_sweep_28 : decode cX7_sweep 28 = .ok (.iload_n 1, 1) := by decide +kernel
theorem dX7_sweep_29 : decode cX7_sweep 29 = .ok (.iaload, 1) := by decide +kernel
theorem dX7_sweep_30 : decode cX7_sweep 30 = .ok (.iconst 1, 1) := by decide +kernel
theorem dX7_sweep_31 : decode cX7_sweep 31 = .ok (.if_icmp .eq 10, 3) := by decide +kernel
theorem dX7_sweep_34 : decode cX7_sweep 34 = .ok (.aload_n 0, 1) := by decide +kernel
theorem dX7_sweep_35 : decode cX7_sweep 35 = .ok (.bipush (-5), 2) := by decide +kernel
theorem dX7_sweep_37 : decode cX7_sweep 37 = .ok (.invokevirtual 94, 3) := by decide +kernel
theorem dX7_sweep_40 : decode cX7_sweep 40 = .ok (.ireturn, 1) := by decide +kernel
theorem dX7_sweep_41 : decode cX7_sweep 41 = .ok (.aload_n 0, 1) := by decide +kernel
theorem dX7_sweep_42 : decode cX7_sweep 42 = .ok (.iload_n 1, 1) := by decide +kernel
theorem dX7_sweep_43 : decode cX7_sweep 43 = .ok (.iconst 1, 1) := by decide +kernel
theorem dX7_sweep_44 : decode cX7_sweep 44 = .ok (.invokevirtual 125, 3) := by decide +kernel
theorem dX7_sweep_47 : decode cX7_sweep 47 = .ok (.aload_n 0, 1) := by decide +kernel
theorem dX7_sweep_48 : decode cX7_sweep 48 = .ok (.getfield 23, 3) := by decide +kernel
theorem dX7_sweep_51 : decode cX7_sweep 51 = .ok (.iload_n 1, 1) := by decide +kernel
theorem dX7_sweep_52 : decode cX7_sweep 52 = .ok (.iconst 0, 1) := by decide +kernel
theorem dX7_sweep_53 : decode cX7_sweep 53 = .ok (.iastore, 1) := by decide +kernel
theorem dX7_sweep_54 : decode cX7_sweep 54 = .ok (.iconst 1, 1) := by decide +kernel
theorem dX7_sweep_55 : decode cX7_sweep 55 = .ok (.ireturn, 1) := by decide +kernel
theorem dX7_flood_0 : decode cX7_flood 0 = .ok (.aload_n 0, 1) := by decide +kernel
theorem dX7_flood_1 : decode cX7_flood 1 = .ok (.iload_n 1, 1) := by decide +kernel
theorem dX7_flood_2 : decode cX7_flood 2 = .ok (.invokevirtual 98, 3) := by decide +kernel
theorem dX7_flood_5 : decode cX7_flood 5 = .ok (.ifCond .ne 10, 3) := by decide +kernel
theorem dX7_flood_8 : decode cX7_flood 8 = .ok (.aload_n 0, 1) := by decide +kernel
theorem dX7_flood_9 : decode cX7_flood 9 = .ok (.bipush (-3), 2) := by decide +kernel
theorem dX7_flood_11 : decode cX7_flood 11 = .ok (.invokevirtual 94, 3) := by decide +kernel
theorem dX7_flood_14 : decode cX7_flood 14 = .ok (.ireturn, 1) := by decide +kernel
theorem dX7_flood_15 : decode cX7_flood 15 = .ok (.aload_n 0, 1) := by decide +kernel
theorem dX7_flood_16 : decode cX7_flood 16 = .ok (.getfield 17, 3) := by decide +kernel
theorem dX7_flood_19 : decode cX7_flood 19 = .ok (.iload_n 1, 1) := by decide +kernel
theorem dX7_flood_20 : decode cX7_flood 20 = .ok (.iaload, 1) := by decide +kernel
theorem dX7_flood_21 : decode cX7_flood 21 = .ok (.iconst 1, 1) := by decide +kernel
theorem dX7_flood_22 : decode cX7_flood 22 = .ok (.if_icmp .eq 20, 3) := by decide +kernel
theorem dX7_flood_25 : decode cX7_flood 25 = .ok (.aload_n 0, 1) := by decide +kernel
theorem dX7_flood_26 : decode cX7_flood 26 = .ok (.getfield 17, 3) := by decide +kernel
theorem dX7_flood_29 : decode cX7_flood 29 = .ok (.iload_n 1, 1) := by decide +kernel
theorem dX7_flood_30 : decode cX7_flood 30 = .ok (.iaload, 1) := by decide +kernel
theorem dX7_flood_31 : decode cX7_flood 31 = .ok (.iconst 2, 1) := by decide +kernel
theorem dX7_flood_32 : decode cX7_flood 32 = .ok (.if_icmp .eq 10, 3) := by decide +kernel
theorem dX7_flood_35 : decode cX7_flood 35 = .ok (.aload_n 0, 1) := by decide +kernel
theorem dX7_flood_36 : decode cX7_flood 36 = .ok (.bipush (-5), 2) := by decide +kernel
theorem dX7_flood_38 : decode cX7_flood 38 = .ok (.invokevirtual 94, 3) := by decide +kernel
theorem dX7_flood_41 : decode cX7_flood 41 = .ok (.ireturn, 1) := by decide +kernel
theorem dX7_flood_42 : decode cX7_flood 42 = .ok (.aload_n 0, 1) := by decide +kernel
theorem dX7_flood_43 : decode cX7_flood 43 = .ok (.iload_n 1, 1) := by decide +kernel
theorem dX7_flood_44 : decode cX7_flood 44 = .ok (.iconst 2, 1) := by decide +kernel
theorem dX7_flood_45 : decode cX7_flood 45 = .ok (.invokevirtual 125, 3) := by decide +kernel
theorem dX7_flood_48 : decode cX7_flood 48 = .ok (.iconst 1, 1) := by decide +kernel
theorem dX7_flood_49 : decode cX7_flood 49 = .ok (.ireturn, 1) := by decide +kernel
theorem dX7_bypass_0 : decode cX7_bypass 0 = .ok (.aload_n 0, 1) := by decide +kernel
theorem dX7_bypass_1 : decode cX7_bypass 1 = .ok (.iload_n 1, 1) := by decide +kernel
theorem dX7_bypass_2 : decode cX7_bypass 2 = .ok (.invokevirtual 98, 3) := by decide +kernel
theorem dX7_bypass_5 : decode cX7_bypass 5 = .ok (.ifCond .ne 10, 3) := by decide +kernel
theorem dX7_bypass_8 : decode cX7_bypass 8 = .ok (.aload_n 0, 1) := by decide +kernel
theorem dX7_bypass_9 : decode cX7_bypass 9 = .ok (.bipush (-3), 2) := by decide +kernel
theorem dX7_bypass_11 : decode cX7_bypass 11 = .ok (.invokevirtual 94, 3) := by decide +kernel
theorem dX7_bypass_14 : decode cX7_bypass 14 = .ok (.ireturn, 1) := by decide +kernel
theorem dX7_bypass_15 : decode cX7_bypass 15 = .ok (.aload_n 0, 1) := by decide +kernel
theorem dX7_bypass_16 : decode cX7_bypass 16 = .ok (.getfield 17, 3) := by decide +kernel
theorem dX7_bypass_19 : decode cX7_bypass 19 = .ok (.iload_n 1, 1) := by decide +kernel
theorem dX7_bypass_20 : decode cX7_bypass 20 = .ok (.iaload, 1) := by decide +kernel
theorem dX7_bypass_21 : decode cX7_bypass 21 = .ok (.iconst 3, 1) := by decide +kernel
theorem dX7_bypass_22 : decode cX7_bypass 22 = .ok (.if_icmp .eq 10, 3) := by decide +kernel
theorem dX7_bypass_25 : decode cX7_bypass 25 = .ok (.aload_n 0, 1) := by decide +kernel
theorem dX7_bypass_26 : decode cX7_bypass 26 = .ok (.bipush (-5), 2) := by decide +kernel
theorem dX7_bypass_28 : decode cX7_bypass 28 = .ok (.invokevirtual 94, 3) := by decide +kernel
theorem dX7_bypass_31 : decode cX7_bypass 31 = .ok (.ireturn, 1) := by decide +kernel
theorem dX7_bypass_32 : decode cX7_bypass 32 = .ok (.aload_n 0, 1) := by decide +kernel
theorem dX7_bypass_33 : decode cX7_bypass 33 = .ok (.iload_n 1, 1) := by decide +kernel
theorem dX7_bypass_34 : decode cX7_bypass 34 = .ok (.invokevirtual 112, 3) := by decide +kernel
theorem dX7_bypass_37 : decode cX7_bypass 37 = .ok (.ifCond .le 10, 3) := by decide +kernel
theorem dX7_bypass_40 : decode cX7_bypass 40 = .ok (.aload_n 0, 1) := by decide +kernel
theorem dX7_bypass_41 : decode cX7_bypass 41 = .ok (.bipush (-7), 2) := by decide +kernel
theorem dX7_bypass_43 : decode cX7_bypass 43 = .ok (.invokevirtual 94, 3) := by decide +kernel
theorem dX7_bypass_46 : decode cX7_bypass 46 = .ok (.ireturn, 1) := by decide +kernel
theorem dX7_bypass_47 : decode cX7_bypass 47 = .ok (.aload_n 0, 1) := by decide +kernel
theorem dX7_bypass_48 : decode cX7_bypass 48 = .ok (.iload_n 1, 1) := by decide +kernel
theorem dX7_bypass_49 : decode cX7_bypass 49 = .ok (.iconst 1, 1) := by decide +kernel
theorem dX7_bypass_50 : decode cX7_bypass 50 = .ok (.invokevirtual 125, 3) := by decide +kernel
theorem dX7_bypass_53 : decode cX7_bypass 53 = .ok (.aload_n 0, 1) := by decide +kernel
theorem dX7_bypass_54 : decode cX7_bypass 54 = .ok (.getfield 23, 3) := by decide +kernel
theorem dX7_bypass_57 : decode cX7_bypass 57 = .ok (.iload_n 1, 1) := by decide +kernel
theorem dX7_bypass_58 : decode cX7_bypass 58 = .ok (.iconst 0, 1) := by decide +kernel
theorem dX7_bypass_59 : decode cX7_bypass 59 = .ok (.iastore, 1) := by decide +kernel
theorem dX7_bypass_60 : decode cX7_bypass 60 = .ok (.aload_n 0, 1) := by decide +kernel
theorem dX7_bypass_61 : decode cX7_bypass 61 = .ok (.getfield 32, 3) := by decide +kernel
theorem dX7_bypass_64 : decode cX7_bypass 64 = .ok (.iload_n 1, 1) := by decide +kernel
theorem dX7_bypass_65 : decode cX7_bypass 65 = .ok (.iconst 0, 1) := by decide +kernel
theorem dX7_bypass_66 : decode cX7_bypass 66 = .ok (.iastore, 1) := by decide +kernel
theorem dX7_bypass_67 : decode cX7_bypass 67 = .ok (.aload_n 0, 1) := by decide +kernel
theorem dX7_bypass_68 : decode cX7_bypass 68 = .ok (.getfield 20, 3) := by decide +kernel
theorem dX7_bypass_71 : decode cX7_bypass 71 = .ok (.iload_n 1, 1) := by decide +kernel
theorem dX7_bypass_72 : decode cX7_bypass 72 = .ok (.dup2, 1) := by decide +kernel
theorem dX7_bypass_73 : decode cX7_bypass 73 = .ok (.iaload, 1) := by decide +kernel
theorem dX7_bypass_74 : decode cX7_bypass 74 = .ok (.iconst 2, 1) := by decide +kernel
theorem dX7_bypass_75 : decode cX7_bypass 75 = .ok (.idiv, 1) := by decide +kernel
theorem dX7_bypass_76 : decode cX7_bypass 76 = .ok (.iastore, 1) := by decide +kernel
theorem dX7_bypass_77 : decode cX7_bypass 77 = .ok (.aload_n 0, 1) := by decide +kernel
theorem dX7_bypass_78 : decode cX7_bypass 78 = .ok (.getfield 20, 3) := by decide +kernel
theorem dX7_bypass_81 : decode cX7_bypass 81 = .ok (.iload_n 1, 1) := by decide +kernel
theorem dX7_bypass_82 : decode cX7_bypass 82 = .ok (.iaload, 1) := by decide +kernel
theorem dX7_bypass_83 : decode cX7_bypass 83 = .ok (.ireturn, 1) := by decide +kernel
theorem dX7_snow_0 : decode cX7_snow 0 = .ok (.iload_n 1, 1) := by decide +kernel
theorem dX7_snow_1 : decode cX7_snow 1 = .ok (.iconst 1, 1) := by decide +kernel
theorem dX7_snow_2 : decode cX7_snow 2 = .ok (.bipush 100, 2) := by decide +kernel
theorem dX7_snow_4 : decode cX7_snow 4 = .ok (.invokestatic 87, 3) := by decide +kernel
theorem dX7_snow_7 : decode cX7_snow 7 = .ok (.ifCond .ne 10, 3) := by decide +kernel
theorem dX7_snow_10 : decode cX7_snow 10 = .ok (.aload_n 0, 1) := by decide +kernel
theorem dX7_snow_11 : decode cX7_snow 11 = .ok (.bipush (-7), 2) := by decide +kernel
theorem dX7_snow_13 : decode cX7_snow 13 = .ok (.invokevirtual 94, 3) := by decide +kernel
theorem dX7_snow_16 : decode cX7_snow 16 = .ok (.ireturn, 1) := by decide +kernel
theorem dX7_snow_17 : decode cX7_snow 17 = .ok (.iconst 0, 1) := by decide +kernel
theorem dX7_snow_18 : decode cX7_snow 18 = .ok (.istore_n 2, 1) := by decide +kernel
theorem dX7_snow_19 : decode cX7_snow 19 = .ok (.iconst 0, 1) := by decide +kernel
theorem dX7_snow_20 : decode cX7_snow 20 = .ok (.istore_n 3, 1) := by decide +kernel
theorem dX7_snow_21 : decode cX7_snow 21 = .ok (.iload_n 3, 1) := by decide +kernel
theorem dX7_snow_22 : decode cX7_snow 22 = .ok (.aload_n 0, 1) := by decide +kernel
theorem dX7_snow_23 : decode cX7_snow 23 = .ok (.getfield 13, 3) := by decide +kernel
theorem dX7_snow_26 : decode cX7_snow 26 = .ok (.if_icmp .ge 82, 3) := by decide +kernel
theorem dX7_snow_29 : decode cX7_snow 29 = .ok (.aload_n 0, 1) := by decide +kernel
theorem dX7_snow_30 : decode cX7_snow 30 = .ok (.getfield 17, 3) := by decide +kernel
theorem dX7_snow_33 : decode cX7_snow 33 = .ok (.iload_n 3, 1) := by decide +kernel
theorem dX7_snow_34 : decode cX7_snow 34 = .ok (.iaload, 1) := by decide +kernel
theorem dX7_snow_35 : decode cX7_snow 35 = .ok (.iconst 4, 1) := by decide +kernel
theorem dX7_snow_36 : decode cX7_snow 36 = .ok (.if_icmp .eq 66, 3) := by decide +kernel
theorem dX7_snow_39 : decode cX7_snow 39 = .ok (.aload_n 0, 1) := by decide +kernel
theorem dX7_snow_40 : decode cX7_snow 40 = .ok (.getfield 23, 3) := by decide +kernel
theorem dX7_snow_43 : decode cX7_snow 43 = .ok (.iload_n 3, 1) := by decide +kernel
theorem dX7_snow_44 : decode cX7_snow 44 = .ok (.aload_n 0, 1) := by decide +kernel
theorem dX7_snow_45 : decode cX7_snow 45 = .ok (.getfield 23, 3) := by decide +kernel
theorem dX7_snow_48 : decode cX7_snow 48 = .ok (.iload_n 3, 1) := by decide +kernel
theorem dX7_snow_49 : decode cX7_snow 49 = .ok (.iaload, 1) := by decide +kernel
theorem dX7_snow_50 : decode cX7_snow 50 = .ok (.iload_n 1, 1) := by decide +kernel
theorem dX7_snow_51 : decode cX7_snow 51 = .ok (.iadd, 1) := by decide +kernel
theorem dX7_snow_52 : decode cX7_snow 52 = .ok (.sipush 200, 3) := by decide +kernel
theorem dX7_snow_55 : decode cX7_snow 55 = .ok (.if_icmp .le 9, 3) := by decide +kernel
theorem dX7_snow_58 : decode cX7_snow 58 = .ok (.sipush 200, 3) := by decide +kernel
theorem dX7_snow_61 : decode cX7_snow 61 = .ok (.goto 11, 3) := by decide +kernel
theorem dX7_snow_64 : decode cX7_snow 64 = .ok (.aload_n 0, 1) := by decide +kernel
theorem dX7_snow_65 : decode cX7_snow 65 = .ok (.getfield 23, 3) := by decide +kernel
theorem dX7_snow_68 : decode cX7_snow 68 = .ok (.iload_n 3, 1) := by decide +kernel
theorem dX7_snow_69 : decode cX7_snow 69 = .ok (.iaload, 1) := by decide +kernel
theorem dX7_snow_70 : decode cX7_snow 70 = .ok (.iload_n 1, 1) := by decide +kernel
theorem dX7_snow_71 : decode cX7_snow 71 = .ok (.iadd, 1) := by decide +kernel
theorem dX7_snow_72 : decode cX7_snow 72 = .ok (.iastore, 1) := by decide +kernel
theorem dX7_snow_73 : decode cX7_snow 73 = .ok (.aload_n 0, 1) := by decide +kernel
theorem dX7_snow_74 : decode cX7_snow 74 = .ok (.getfield 17, 3) := by decide +kernel
theorem dX7_snow_77 : decode cX7_snow 77 = .ok (.iload_n 3, 1) := by decide +kernel
theorem dX7_snow_78 : decode cX7_snow 78 = .ok (.iaload, 1) := by decide +kernel
theorem dX7_snow_79 : decode cX7_snow 79 = .ok (.iconst 1, 1) := by decide +kernel
theorem dX7_snow_80 : decode cX7_snow 80 = .ok (.if_icmp .eq 13, 3) := by decide +kernel
theorem dX7_snow_83 : decode cX7_snow 83 = .ok (.aload_n 0, 1) := by decide +kernel
theorem dX7_snow_84 : decode cX7_snow 84 = .ok (.getfield 17, 3) := by decide +kernel
theorem dX7_snow_87 : decode cX7_snow 87 = .ok (.iload_n 3, 1) := by decide +kernel
theorem dX7_snow_88 : decode cX7_snow 88 = .ok (.iaload, 1) := by decide +kernel
theorem dX7_snow_89 : decode cX7_snow 89 = .ok (.iconst 2, 1) := by decide +kernel
theorem dX7_snow_90 : decode cX7_snow 90 = .ok (.if_icmp .ne 12, 3) := by decide +kernel
theorem dX7_snow_93 : decode cX7_snow 93 = .ok (.aload_n 0, 1) := by decide +kernel
theorem dX7_snow_94 : decode cX7_snow 94 = .ok (.iload_n 3, 1) := by decide +kernel
theorem dX7_snow_95 : decode cX7_snow 95 = .ok (.iconst 0, 1) := by decide +kernel
theorem dX7_snow_96 : decode cX7_snow 96 = .ok (.invokevirtual 125, 3) := by decide +kernel
theorem dX7_snow_99 : decode cX7_snow 99 = .ok (.iinc 2 1, 3) := by decide +kernel
theorem dX7_snow_102 : decode cX7_snow 102 = .ok (.iinc 3 1, 3) := by decide +kernel
theorem dX7_snow_105 : decode cX7_snow 105 = .ok (.goto (-84), 3) := by decide +kernel
theorem dX7_snow_108 : decode cX7_snow 108 = .ok (.iload_n 2, 1) := by decide +kernel
theorem dX7_snow_109 : decode cX7_snow 109 = .ok (.ireturn, 1) := by decide +kernel
theorem dX7_grows_0 : decode cX7_grows 0 = .ok (.aload_n 0, 1) := by decide +kernel
theorem dX7_grows_1 : decode cX7_grows 1 = .ok (.getfield 17, 3) := by decide +kernel
theorem dX7_grows_4 : decode cX7_grows 4 = .ok (.iload_n 1, 1) := by decide +kernel
theorem dX7_grows_5 : decode cX7_grows 5 = .ok (.iaload, 1) := by decide +kernel
theorem dX7_grows_6 : decode cX7_grows 6 = .ok (.iconst 4, 1) := by decide +kernel
theorem dX7_grows_7 : decode cX7_grows 7 = .ok (.if_icmp .ne 4, 3) := by decide +kernel
theorem dX7_grows_10 : decode cX7_grows 10 = .ok (.return_, 1) := by decide +kernel
theorem dX7_grows_11 : decode cX7_grows 11 = .ok (.iload_n 2, 1) := by decide +kernel
theorem dX7_grows_12 : decode cX7_grows 12 = .ok (.ifCond .ge 131, 3) := by decide +kernel
theorem dX7_grows_15 : decode cX7_grows 15 = .ok (.aload_n 0, 1) := by decide +kernel
theorem dX7_grows_16 : decode cX7_grows 16 = .ok (.getfield 17, 3) := by decide +kernel
theorem dX7_grows_19 : decode cX7_grows 19 = .ok (.iload_n 1, 1) := by decide +kernel
theorem dX7_grows_20 : decode cX7_grows 20 = .ok (.iaload, 1) := by decide +kernel
theorem dX7_grows_21 : decode cX7_grows 21 = .ok (.iconst 2, 1) := by decide +kernel
theorem dX7_grows_22 : decode cX7_grows 22 = .ok (.if_icmp .ne 8, 3) := by decide +kernel
theorem dX7_grows_25 : decode cX7_grows 25 = .ok (.bipush 20, 2) := by decide +kernel
theorem dX7_grows_27 : decode cX7_grows 27 = .ok (.goto 19, 3) := by decide +kernel
theorem dX7_grows_30 : decode cX7_grows 30 = .ok (.aload_n 0, 1) := by decide +kernel
theorem dX7_grows_31 : decode cX7_grows 31 = .ok (.getfield 17, 3) := by decide +kernel
theorem dX7_grows_34 : decode cX7_grows 34 = .ok (.iload_n 1, 1) := by decide +kernel
theorem dX7_grows_35 : decode cX7_grows 35 = .ok (.iaload, 1) := by decide +kernel
theorem dX7_grows_36 : decode cX7_grows 36 = .ok (.iconst 3, 1) := by decide +kernel
theorem dX7_grows_37 : decode cX7_grows 37 = .ok (.if_icmp .ne 7, 3) := by decide +kernel
theorem dX7_grows_40 : decode cX7_grows 40 = .ok (.iconst 5, 1) := by decide +kernel
theorem dX7_grows_41 : decode cX7_grows 41 = .ok (.goto 5, 3) := by decide +kernel
theorem dX7_grows_44 : decode cX7_grows 44 = .ok (.bipush 10, 2) := by decide +kernel
theorem dX7_grows_46 : decode cX7_grows 46 = .ok (.istore_n 3, 1) := by decide +kernel
theorem dX7_grows_47 : decode cX7_grows 47 = .ok (.aload_n 0, 1) := by decide +kernel
theorem dX7_grows_48 : decode cX7_grows 48 = .ok (.getfield 17, 3) := by decide +kernel
theorem dX7_grows_51 : decode cX7_grows 51 = .ok (.iload_n 1, 1) := by decide +kernel
theorem dX7_grows_52 : decode cX7_grows 52 = .ok (.iaload, 1) := by decide +kernel
theorem dX7_grows_53 : decode cX7_grows 53 = .ok (.iconst 1, 1) := by decide +kernel
theorem dX7_grows_54 : decode cX7_grows 54 = .ok (.if_icmp .eq 13, 3) := by decide +kernel
theorem dX7_grows_57 : decode cX7_grows 57 = .ok (.aload_n 0, 1) := by decide +kernel
theorem dX7_grows_58 : decode cX7_grows 58 = .ok (.getfield 17, 3) := by decide +kernel
theorem dX7_grows_61 : decode cX7_grows 61 = .ok (.iload_n 1, 1) := by decide +kernel
theorem dX7_grows_62 : decode cX7_grows 62 = .ok (.iaload, 1) := by decide +kernel
theorem dX7_grows_63 : decode cX7_grows 63 = .ok (.iconst 2, 1) := by decide +kernel
theorem dX7_grows_64 : decode cX7_grows 64 = .ok (.if_icmp .ne 7, 3) := by decide +kernel
theorem dX7_grows_67 : decode cX7_grows 67 = .ok (.iconst 0, 1) := by decide +kernel
theorem dX7_grows_68 : decode cX7_grows 68 = .ok (.goto 9, 3) := by decide +kernel
theorem dX7_grows_71 : decode cX7_grows 71 = .ok (.aload_n 0, 1) := by decide +kernel
theorem dX7_grows_72 : decode cX7_grows 72 = .ok (.getfield 23, 3) := by decide +kernel
theorem dX7_grows_75 : decode cX7_grows 75 = .ok (.iload_n 1, 1) := by decide +kernel
theorem dX7_grows_76 : decode cX7_grows 76 = .ok (.iaload, 1) := by decide +kernel
theorem dX7_grows_77 : decode cX7_grows 77 = .ok (.istore 4, 2) := by decide +kernel
theorem dX7_grows_79 : decode cX7_grows 79 = .ok (.aload_n 0, 1) := by decide +kernel
theorem dX7_grows_80 : decode cX7_grows 80 = .ok (.getfield 20, 3) := by decide +kernel
theorem dX7_grows_83 : decode cX7_grows 83 = .ok (.iload_n 1, 1) := by decide +kernel
theorem dX7_grows_84 : decode cX7_grows 84 = .ok (.dup2, 1) := by decide +kernel
theorem dX7_grows_85 : decode cX7_grows 85 = .ok (.iaload, 1) := by decide +kernel
theorem dX7_grows_86 : decode cX7_grows 86 = .ok (.iload_n 2, 1) := by decide +kernel
theorem dX7_grows_87 : decode cX7_grows 87 = .ok (.ineg, 1) := by decide +kernel
theorem dX7_grows_88 : decode cX7_grows 88 = .ok (.iload_n 3, 1) := by decide +kernel
theorem dX7_grows_89 : decode cX7_grows 89 = .ok (.imul, 1) := by decide +kernel
theorem dX7_grows_90 : decode cX7_grows 90 = .ok (.bipush 100, 2) := by decide +kernel
theorem dX7_grows_92 : decode cX7_grows 92 = .ok (.aload_n 0, 1) := by decide +kernel
theorem dX7_grows_93 : decode cX7_grows 93 = .ok (.getfield 20, 3) := by decide +kernel
theorem dX7_grows_96 : decode cX7_grows 96 = .ok (.iload_n 1, 1) := by decide +kernel
theorem dX7_grows_97 : decode cX7_grows 97 = .ok (.iaload, 1) := by decide +kernel
theorem dX7_grows_98 : decode cX7_grows 98 = .ok (.bipush 10, 2) := by decide +kernel
theorem dX7_grows_100 : decode cX7_grows 100 = .ok (.idiv, 1) := by decide +kernel
theorem dX7_grows_101 : decode cX7_grows 101 = .ok (.iadd, 1) := by decide +kernel
theorem dX7_grows_102 : decode cX7_grows 102 = .ok (.iconst 3, 1) := by decide +kernel
theorem dX7_grows_103 : decode cX7_grows 103 = .ok (.iload 4, 2) := by decide +kernel
theorem dX7_grows_105 : decode cX7_grows 105 = .ok (.imul, 1) := by decide +kernel
theorem dX7_grows_106 : decode cX7_grows 106 = .ok (.iadd, 1) := by decide +kernel
theorem dX7_grows_107 : decode cX7_grows 107 = .ok (.idiv, 1) := by decide +kernel
theorem dX7_grows_108 : decode cX7_grows 108 = .ok (.iadd, 1) := by decide +kernel
theorem dX7_grows_109 : decode cX7_grows 109 = .ok (.iastore, 1) := by decide +kernel
theorem dX7_grows_110 : decode cX7_grows 110 = .ok (.aload_n 0, 1) := by decide +kernel
theorem dX7_grows_111 : decode cX7_grows 111 = .ok (.getfield 20, 3) := by decide +kernel
theorem dX7_grows_114 : decode cX7_grows 114 = .ok (.iload_n 1, 1) := by decide +kernel
theorem dX7_grows_115 : decode cX7_grows 115 = .ok (.aload_n 0, 1) := by decide +kernel
theorem dX7_grows_116 : decode cX7_grows 116 = .ok (.getfield 20, 3) := by decide +kernel
theorem dX7_grows_119 : decode cX7_grows 119 = .ok (.iload_n 1, 1) := by decide +kernel
theorem dX7_grows_120 : decode cX7_grows 120 = .ok (.iaload, 1) := by decide +kernel
theorem dX7_grows_121 : decode cX7_grows 121 = .ok (.sipush 3000, 3) := by decide +kernel
theorem dX7_grows_124 : decode cX7_grows 124 = .ok (.if_icmp .le 9, 3) := by decide +kernel
theorem dX7_grows_127 : decode cX7_grows 127 = .ok (.sipush 3000, 3) := by decide +kernel
theorem dX7_grows_130 : decode cX7_grows 130 = .ok (.goto 9, 3) := by decide +kernel
theorem dX7_grows_133 : decode cX7_grows 133 = .ok (.aload_n 0, 1) := by decide +kernel
theorem dX7_grows_134 : decode cX7_grows 134 = .ok (.getfield 20, 3) := by decide +kernel
theorem dX7_grows_137 : decode cX7_grows 137 = .ok (.iload_n 1, 1) := by decide +kernel
theorem dX7_grows_138 : decode cX7_grows 138 = .ok (.iaload, 1) := by decide +kernel
theorem dX7_grows_139 : decode cX7_grows 139 = .ok (.iastore, 1) := by decide +kernel
theorem dX7_grows_140 : decode cX7_grows 140 = .ok (.goto 47, 3) := by decide +kernel
theorem dX7_grows_143 : decode cX7_grows 143 = .ok (.iload_n 2, 1) := by decide +kernel
theorem dX7_grows_144 : decode cX7_grows 144 = .ok (.ifCond .le 43, 3) := by decide +kernel
theorem dX7_grows_147 : decode cX7_grows 147 = .ok (.aload_n 0, 1) := by decide +kernel
theorem dX7_grows_148 : decode cX7_grows 148 = .ok (.getfield 20, 3) := by decide +kernel
theorem dX7_grows_151 : decode cX7_grows 151 = .ok (.iload_n 1, 1) := by decide +kernel
theorem dX7_grows_152 : decode cX7_grows 152 = .ok (.dup2, 1) := by decide +kernel
theorem dX7_grows_153 : decode cX7_grows 153 = .ok (.iaload, 1) := by decide +kernel
theorem dX7_grows_154 : decode cX7_grows 154 = .ok (.iload_n 2, 1) := by decide +kernel
theorem dX7_grows_155 : decode cX7_grows 155 = .ok (.bipush 10, 2) := by decide +kernel
theorem dX7_grows_157 : decode cX7_grows 157 = .ok (.idiv, 1) := by decide +kernel
theorem dX7_grows_158 : decode cX7_grows 158 = .ok (.iconst 1, 1) := by decide +kernel
theorem dX7_grows_159 : decode cX7_grows 159 = .ok (.iadd, 1) := by decide +kernel
theorem dX7_grows_160 : decode cX7_grows 160 = .ok (.isub, 1) := by decide +kernel
theorem dX7_grows_161 : decode cX7_grows 161 = .ok (.iastore, 1) := by decide +kernel
theorem dX7_grows_162 : decode cX7_grows 162 = .ok (.aload_n 0, 1) := by decide +kernel
theorem dX7_grows_163 : decode cX7_grows 163 = .ok (.getfield 20, 3) := by decide +kernel
theorem dX7_grows_166 : decode cX7_grows 166 = .ok (.iload_n 1, 1) := by decide +kernel
theorem dX7_grows_167 : decode cX7_grows 167 = .ok (.aload_n 0, 1) := by decide +kernel
theorem dX7_grows_168 : decode cX7_grows 168 = .ok (.getfield 20, 3) := by decide +kernel
theorem dX7_grows_171 : decode cX7_grows 171 = .ok (.iload_n 1, 1) := by decide +kernel
theorem dX7_grows_172 : decode cX7_grows 172 = .ok (.iaload, 1) := by decide +kernel
theorem dX7_grows_173 : decode cX7_grows 173 = .ok (.ifCond .ge 7, 3) := by decide +kernel
theorem dX7_grows_176 : decode cX7_grows 176 = .ok (.iconst 0, 1) := by decide +kernel
theorem dX7_grows_177 : decode cX7_grows 177 = .ok (.goto 9, 3) := by decide +kernel
theorem dX7_grows_180 : decode cX7_grows 180 = .ok (.aload_n 0, 1) := by decide +kernel
theorem dX7_grows_181 : decode cX7_grows 181 = .ok (.getfield 20, 3) := by decide +kernel
theorem dX7_grows_184 : decode cX7_grows 184 = .ok (.iload_n 1, 1) := by decide +kernel
theorem dX7_grows_185 : decode cX7_grows 185 = .ok (.iaload, 1) := by decide +kernel
theorem dX7_grows_186 : decode cX7_grows 186 = .ok (.iastore, 1) := by decide +kernel
theorem dX7_grows_187 : decode cX7_grows 187 = .ok (.aload_n 0, 1) := by decide +kernel
theorem dX7_grows_188 : decode cX7_grows 188 = .ok (.getfield 17, 3) := by decide +kernel
theorem dX7_grows_191 : decode cX7_grows 191 = .ok (.iload_n 1, 1) := by decide +kernel
theorem dX7_grows_192 : decode cX7_grows 192 = .ok (.iaload, 1) := by decide +kernel
theorem dX7_grows_193 : decode cX7_grows 193 = .ok (.iconst 3, 1) := by decide +kernel
theorem dX7_grows_194 : decode cX7_grows 194 = .ok (.if_icmp .ne 43, 3) := by decide +kernel
theorem dX7_grows_197 : decode cX7_grows 197 = .ok (.iload_n 2, 1) := by decide +kernel
theorem dX7_grows_198 : decode cX7_grows 198 = .ok (.bipush (-100), 2) := by decide +kernel
theorem dX7_grows_200 : decode cX7_grows 200 = .ok (.if_icmp .ge 37, 3) := by decide +kernel
theorem dX7_grows_203 : decode cX7_grows 203 = .ok (.aload_n 0, 1) := by decide +kernel
theorem dX7_grows_204 : decode cX7_grows 204 = .ok (.getfield 35, 3) := by decide +kernel
theorem dX7_grows_207 : decode cX7_grows 207 = .ok (.iload_n 1, 1) := by decide +kernel
theorem dX7_grows_208 : decode cX7_grows 208 = .ok (.dup2, 1) := by decide +kernel
theorem dX7_grows_209 : decode cX7_grows 209 = .ok (.iaload, 1) := by decide +kernel
theorem dX7_grows_210 : decode cX7_grows 210 = .ok (.iconst 1, 1) := by decide +kernel
theorem dX7_grows_211 : decode cX7_grows 211 = .ok (.iadd, 1) := by decide +kernel
theorem dX7_grows_212 : decode cX7_grows 212 = .ok (.iastore, 1) := by decide +kernel
theorem dX7_grows_213 : decode cX7_grows 213 = .ok (.aload_n 0, 1) := by decide +kernel
theorem dX7_grows_214 : decode cX7_grows 214 = .ok (.getfield 35, 3) := by decide +kernel
theorem dX7_grows_217 : decode cX7_grows 217 = .ok (.iload_n 1, 1) := by decide +kernel
theorem dX7_grows_218 : decode cX7_grows 218 = .ok (.iaload, 1) := by decide +kernel
theorem dX7_grows_219 : decode cX7_grows 219 = .ok (.bipush 24, 2) := by decide +kernel
theorem dX7_grows_221 : decode cX7_grows 221 = .ok (.if_icmp .ne 16, 3) := by decide +kernel
theorem dX7_grows_224 : decode cX7_grows 224 = .ok (.aload_n 0, 1) := by decide +kernel
theorem dX7_grows_225 : decode cX7_grows 225 = .ok (.iload_n 1, 1) := by decide +kernel
theorem dX7_grows_226 : decode cX7_grows 226 = .ok (.iconst 0, 1) := by decide +kernel
theorem dX7_grows_227 : decode cX7_grows 227 = .ok (.invokevirtual 125, 3) := by decide +kernel
theorem dX7_grows_230 : decode cX7_grows 230 = .ok (.aload_n 0, 1) := by decide +kernel
theorem dX7_grows_231 : decode cX7_grows 231 = .ok (.getfield 32, 3) := by decide +kernel
theorem dX7_grows_234 : decode cX7_grows 234 = .ok (.iload_n 1, 1) := by decide +kernel
theorem dX7_grows_235 : decode cX7_grows 235 = .ok (.iconst 0, 1) := by decide +kernel
theorem dX7_grows_236 : decode cX7_grows 236 = .ok (.iastore, 1) := by decide +kernel
theorem dX7_grows_237 : decode cX7_grows 237 = .ok (.return_, 1) := by decide +kernel
theorem dX7_load_0 : decode cX7_load 0 = .ok (.iload_n 1, 1) := by decide +kernel
theorem dX7_load_1 : decode cX7_load 1 = .ok (.iconst 1, 1) := by decide +kernel
theorem dX7_load_2 : decode cX7_load 2 = .ok (.bipush 99, 2) := by decide +kernel
theorem dX7_load_4 : decode cX7_load 4 = .ok (.invokestatic 87, 3) := by decide +kernel
theorem dX7_load_7 : decode cX7_load 7 = .ok (.ifCond .eq 22, 3) := by decide +kernel
theorem dX7_load_10 : decode cX7_load 10 = .ok (.iload_n 2, 1) := by decide +kernel
theorem dX7_load_11 : decode cX7_load 11 = .ok (.iconst 0, 1) := by decide +kernel
theorem dX7_load_12 : decode cX7_load 12 = .ok (.bipush 9, 2) := by decide +kernel
theorem dX7_load_14 : decode cX7_load 14 = .ok (.invokestatic 87, 3) := by decide +kernel
theorem dX7_load_17 : decode cX7_load 17 = .ok (.ifCond .eq 12, 3) := by decide +kernel
theorem dX7_load_20 : decode cX7_load 20 = .ok (.iload_n 3, 1) := by decide +kernel
theorem dX7_load_21 : decode cX7_load 21 = .ok (.iconst 0, 1) := by decide +kernel
theorem dX7_load_22 : decode cX7_load 22 = .ok (.iconst 1, 1) := by decide +kernel
theorem dX7_load_23 : decode cX7_load 23 = .ok (.invokestatic 87, 3) := by decide +kernel
theorem dX7_load_26 : decode cX7_load 26 = .ok (.ifCond .ne 10, 3) := by decide +kernel
theorem dX7_load_29 : decode cX7_load 29 = .ok (.aload_n 0, 1) := by decide +kernel
theorem dX7_load_30 : decode cX7_load 30 = .ok (.bipush (-7), 2) := by decide +kernel
theorem dX7_load_32 : decode cX7_load 32 = .ok (.invokevirtual 94, 3) := by decide +kernel
theorem dX7_load_35 : decode cX7_load 35 = .ok (.ireturn, 1) := by decide +kernel
theorem dX7_load_36 : decode cX7_load 36 = .ok (.aload_n 0, 1) := by decide +kernel
theorem dX7_load_37 : decode cX7_load 37 = .ok (.getfield 91, 3) := by decide +kernel
theorem dX7_load_40 : decode cX7_load 40 = .ok (.bipush 24, 2) := by decide +kernel
theorem dX7_load_42 : decode cX7_load 42 = .ok (.if_icmp .ne 10, 3) := by decide +kernel
theorem dX7_load_45 : decode cX7_load 45 = .ok (.aload_n 0, 1) := by decide +kernel
theorem dX7_load_46 : decode cX7_load 46 = .ok (.bipush (-8), 2) := by decide +kernel
theorem dX7_load_48 : decode cX7_load 48 = .ok (.invokevirtual 94, 3) := by decide +kernel
theorem dX7_load_51 : decode cX7_load 51 = .ok (.ireturn, 1) := by decide +kernel
theorem dX7_load_52 : decode cX7_load 52 = .ok (.aload_n 0, 1) := by decide +kernel
theorem dX7_load_53 : decode cX7_load 53 = .ok (.getfield 47, 3) := by decide +kernel
theorem dX7_load_56 : decode cX7_load 56 = .ok (.aload_n 0, 1) := by decide +kernel
theorem dX7_load_57 : decode cX7_load 57 = .ok (.getfield 91, 3) := by decide +kernel
theorem dX7_load_60 : decode cX7_load 60 = .ok (.iload_n 1, 1) := by decide +kernel
theorem dX7_load_61 : decode cX7_load 61 = .ok (.iastore, 1) := by decide +kernel
theorem dX7_load_62 : decode cX7_load 62 = .ok (.aload_n 0, 1) := by decide +kernel
theorem dX7_load_63 : decode cX7_load 63 = .ok (.getfield 50, 3) := by decide +kernel
theorem dX7_load_66 : decode cX7_load 66 = .ok (.aload_n 0, 1) := by decide +kernel
theorem dX7_load_67 : decode cX7_load 67 = .ok (.getfield 91, 3) := by decide +kernel
theorem dX7_load_70 : decode cX7_load 70 = .ok (.iload_n 2, 1) := by decide +kernel
theorem dX7_load_71 : decode cX7_load 71 = .ok (.iastore, 1) := by decide +kernel
theorem dX7_load_72 : decode cX7_load 72 = .ok (.aload_n 0, 1) := by decide +kernel
theorem dX7_load_73 : decode cX7_load 73 = .ok (.getfield 53, 3) := by decide +kernel
theorem dX7_load_76 : decode cX7_load 76 = .ok (.aload_n 0, 1) := by decide +kernel
theorem dX7_load_77 : decode cX7_load 77 = .ok (.getfield 91, 3) := by decide +kernel
theorem dX7_load_80 : decode cX7_load 80 = .ok (.iload_n 3, 1) := by decide +kernel
theorem dX7_load_81 : decode cX7_load 81 = .ok (.iastore, 1) := by decide +kernel
theorem dX7_load_82 : decode cX7_load 82 = .ok (.aload_n 0, 1) := by decide +kernel
theorem dX7_load_83 : decode cX7_load 83 = .ok (.getfield 56, 3) := by decide +kernel
theorem dX7_load_86 : decode cX7_load 86 = .ok (.aload_n 0, 1) := by decide +kernel
theorem dX7_load_87 : decode cX7_load 87 = .ok (.getfield 91, 3) := by decide +kernel
theorem dX7_load_90 : decode cX7_load 90 = .ok (.iconst 0, 1) := by decide +kernel
theorem dX7_load_91 : decode cX7_load 91 = .ok (.iastore, 1) := by decide +kernel
theorem dX7_load_92 : decode cX7_load 92 = .ok (.aload_n 0, 1) := by decide +kernel
theorem dX7_load_93 : decode cX7_load 93 = .ok (.getfield 65, 3) := by decide +kernel
theorem dX7_load_96 : decode cX7_load 96 = .ok (.aload_n 0, 1) := by decide +kernel
theorem dX7_load_97 : decode cX7_load 97 = .ok (.getfield 91, 3) := by decide +kernel
theorem dX7_load_100 : decode cX7_load 100 = .ok (.iconst (-1), 1) := by decide +kernel
theorem dX7_load_101 : decode cX7_load 101 = .ok (.iastore, 1) := by decide +kernel
theorem dX7_load_102 : decode cX7_load 102 = .ok (.aload_n 0, 1) := by decide +kernel
theorem dX7_load_103 : decode cX7_load 103 = .ok (.dup, 1) := by decide +kernel
theorem dX7_load_104 : decode cX7_load 104 = .ok (.getfield 91, 3) := by decide +kernel
theorem dX7_load_107 : decode cX7_load 107 = .ok (.iconst 1, 1) := by decide +kernel
theorem dX7_load_108 : decode cX7_load 108 = .ok (.iadd, 1) := by decide +kernel
theorem dX7_load_109 : decode cX7_load 109 = .ok (.putfield 91, 3) := by decide +kernel
theorem dX7_load_112 : decode cX7_load 112 = .ok (.aload_n 0, 1) := by decide +kernel
theorem dX7_load_113 : decode cX7_load 113 = .ok (.getfield 91, 3) := by decide +kernel
theorem dX7_load_116 : decode cX7_load 116 = .ok (.iconst 1, 1) := by decide +kernel
theorem dX7_load_117 : decode cX7_load 117 = .ok (.isub, 1) := by decide +kernel
theorem dX7_load_118 : decode cX7_load 118 = .ok (.ireturn, 1) := by decide +kernel
theorem dX7_of_0 : decode cX7_of 0 = .ok (.aload_n 0, 1) := by decide +kernel
theorem dX7_of_1 : decode cX7_of 1 = .ok (.iload_n 1, 1) := by decide +kernel
theorem dX7_of_2 : decode cX7_of 2 = .ok (.invokevirtual 129, 3) := by decide +kernel
theorem dX7_of_5 : decode cX7_of 5 = .ok (.ifCond .ne 10, 3) := by decide +kernel
theorem dX7_of_8 : decode cX7_of 8 = .ok (.aload_n 0, 1) := by decide +kernel
theorem dX7_of_9 : decode cX7_of 9 = .ok (.bipush (-3), 2) := by decide +kernel
theorem dX7_of_11 : decode cX7_of 11 = .ok (.invokevirtual 94, 3) := by decide +kernel
theorem dX7_of_14 : decode cX7_of 14 = .ok (.ireturn, 1) := by decide +kernel
theorem dX7_of_15 : decode cX7_of 15 = .ok (.iload_n 2, 1) := by decide +kernel
theorem dX7_of_16 : decode cX7_of 16 = .ok (.tableswitch 121 0 6 #[44, 51, 58, 65, 72, 93, 114], 44) := by decide +kernel
theorem dX7_of_60 : decode cX7_of 60 = .ok (.aload_n 0, 1) := by decide +kernel
theorem dX7_of_61 : decode cX7_of 61 = .ok (.getfield 47, 3) := by decide +kernel
theorem dX7_of_64 : decode cX7_of 64 = .ok (.iload_n 1, 1) := by decide +kernel
theorem dX7_of_65 : decode cX7_of 65 = .ok (.iaload, 1) := by decide +kernel
theorem dX7_of_66 : decode cX7_of 66 = .ok (.ireturn, 1) := by decide +kernel
theorem dX7_of_67 : decode cX7_of 67 = .ok (.aload_n 0, 1) := by decide +kernel
theorem dX7_of_68 : decode cX7_of 68 = .ok (.getfield 50, 3) := by decide +kernel
theorem dX7_of_71 : decode cX7_of 71 = .ok (.iload_n 1, 1) := by decide +kernel
theorem dX7_of_72 : decode cX7_of 72 = .ok (.iaload, 1) := by decide +kernel
theorem dX7_of_73 : decode cX7_of 73 = .ok (.ireturn, 1) := by decide +kernel
theorem dX7_of_74 : decode cX7_of 74 = .ok (.aload_n 0, 1) := by decide +kernel
theorem dX7_of_75 : decode cX7_of 75 = .ok (.getfield 53, 3) := by decide +kernel
theorem dX7_of_78 : decode cX7_of 78 = .ok (.iload_n 1, 1) := by decide +kernel
theorem dX7_of_79 : decode cX7_of 79 = .ok (.iaload, 1) := by decide +kernel
theorem dX7_of_80 : decode cX7_of 80 = .ok (.ireturn, 1) := by decide +kernel
theorem dX7_of_81 : decode cX7_of 81 = .ok (.aload_n 0, 1) := by decide +kernel
theorem dX7_of_82 : decode cX7_of 82 = .ok (.getfield 56, 3) := by decide +kernel
theorem dX7_of_85 : decode cX7_of 85 = .ok (.iload_n 1, 1) := by decide +kernel
theorem dX7_of_86 : decode cX7_of 86 = .ok (.iaload, 1) := by decide +kernel
theorem dX7_of_87 : decode cX7_of 87 = .ok (.ireturn, 1) := by decide +kernel
theorem dX7_of_88 : decode cX7_of 88 = .ok (.aload_n 0, 1) := by decide +kernel
theorem dX7_of_89 : decode cX7_of 89 = .ok (.getfield 56, 3) := by decide +kernel
theorem dX7_of_92 : decode cX7_of 92 = .ok (.iload_n 1, 1) := by decide +kernel
theorem dX7_of_93 : decode cX7_of 93 = .ok (.iaload, 1) := by decide +kernel
theorem dX7_of_94 : decode cX7_of 94 = .ok (.iconst 1, 1) := by decide +kernel
theorem dX7_of_95 : decode cX7_of 95 = .ok (.if_icmp .ne 12, 3) := by decide +kernel
theorem dX7_of_98 : decode cX7_of 98 = .ok (.aload_n 0, 1) := by decide +kernel
theorem dX7_of_99 : decode cX7_of 99 = .ok (.getfield 59, 3) := by decide +kernel
theorem dX7_of_102 : decode cX7_of 102 = .ok (.iload_n 1, 1) := by decide +kernel
theorem dX7_of_103 : decode cX7_of 103 = .ok (.iaload, 1) := by decide +kernel
theorem dX7_of_104 : decode cX7_of 104 = .ok (.goto 4, 3) := by decide +kernel
theorem dX7_of_107 : decode cX7_of 107 = .ok (.iconst (-1), 1) := by decide +kernel
theorem dX7_of_108 : decode cX7_of 108 = .ok (.ireturn, 1) := by decide +kernel
theorem dX7_of_109 : decode cX7_of 109 = .ok (.aload_n 0, 1) := by decide +kernel
theorem dX7_of_110 : decode cX7_of 110 = .ok (.getfield 56, 3) := by decide +kernel
theorem dX7_of_113 : decode cX7_of 113 = .ok (.iload_n 1, 1) := by decide +kernel
theorem dX7_of_114 : decode cX7_of 114 = .ok (.iaload, 1) := by decide +kernel
theorem dX7_of_115 : decode cX7_of 115 = .ok (.iconst 1, 1) := by decide +kernel
theorem dX7_of_116 : decode cX7_of 116 = .ok (.if_icmp .ne 12, 3) := by decide +kernel
theorem dX7_of_119 : decode cX7_of 119 = .ok (.aload_n 0, 1) := by decide +kernel
theorem dX7_of_120 : decode cX7_of 120 = .ok (.getfield 62, 3) := by decide +kernel
theorem dX7_of_123 : decode cX7_of 123 = .ok (.iload_n 1, 1) := by decide +kernel
theorem dX7_of_124 : decode cX7_of 124 = .ok (.iaload, 1) := by decide +kernel
theorem dX7_of_125 : decode cX7_of 125 = .ok (.goto 4, 3) := by decide +kernel
theorem dX7_of_128 : decode cX7_of 128 = .ok (.iconst (-1), 1) := by decide +kernel
theorem dX7_of_129 : decode cX7_of 129 = .ok (.ireturn, 1) := by decide +kernel
theorem dX7_of_130 : decode cX7_of 130 = .ok (.aload_n 0, 1) := by decide +kernel
theorem dX7_of_131 : decode cX7_of 131 = .ok (.getfield 65, 3) := by decide +kernel
theorem dX7_of_134 : decode cX7_of 134 = .ok (.iload_n 1, 1) := by decide +kernel
theorem dX7_of_135 : decode cX7_of 135 = .ok (.iaload, 1) := by decide +kernel
theorem dX7_of_136 : decode cX7_of 136 = .ok (.ireturn, 1) := by decide +kernel
theorem dX7_of_137 : decode cX7_of 137 = .ok (.aload_n 0, 1) := by decide +kernel
theorem dX7_of_138 : decode cX7_of 138 = .ok (.bipush (-7), 2) := by decide +kernel
theorem dX7_of_140 : decode cX7_of 140 = .ok (.invokevirtual 94, 3) := by decide +kernel
theorem dX7_of_143 : decode cX7_of 143 = .ok (.ireturn, 1) := by decide +kernel
theorem dX7_field_0 : decode cX7_field 0 = .ok (.iload_n 1, 1) := by decide +kernel
theorem dX7_field_1 : decode cX7_field 1 = .ok (.ifCond .ne 12, 3) := by decide +kernel
theorem dX7_field_4 : decode cX7_field 4 = .ok (.aload_n 0, 1) := by decide +kernel
theorem dX7_field_5 : decode cX7_field 5 = .ok (.getfield 47, 3) := by decide +kernel
theorem dX7_field_8 : decode cX7_field 8 = .ok (.iload_n 2, 1) := by decide +kernel
theorem dX7_field_9 : decode cX7_field 9 = .ok (.iaload, 1) := by decide +kernel
theorem dX7_field_10 : decode cX7_field 10 = .ok (.goto 48, 3) := by decide +kernel
theorem dX7_field_13 : decode cX7_field 13 = .ok (.iload_n 1, 1) := by decide +kernel
theorem dX7_field_14 : decode cX7_field 14 = .ok (.iconst 1, 1) := by decide +kernel
theorem dX7_field_15 : decode cX7_field 15 = .ok (.if_icmp .ne 12, 3) := by decide +kernel
theorem dX7_field_18 : decode cX7_field 18 = .ok (.aload_n 0, 1) := by decide +kernel
theorem dX7_field_19 : decode cX7_field 19 = .ok (.getfield 50, 3) := by decide +kernel
theorem dX7_field_22 : decode cX7_field 22 = .ok (.iload_n 2, 1) := by decide +kernel
theorem dX7_field_23 : decode cX7_field 23 = .ok (.iaload, 1) := by decide +kernel
theorem dX7_field_24 : decode cX7_field 24 = .ok (.goto 34, 3) := by decide +kernel
theorem dX7_field_27 : decode cX7_field 27 = .ok (.iload_n 1, 1) := by decide +kernel
theorem dX7_field_28 : decode cX7_field 28 = .ok (.iconst 2, 1) := by decide +kernel
theorem dX7_field_29 : decode cX7_field 29 = .ok (.if_icmp .ne 7, 3) := by decide +kernel
theorem dX7_field_32 : decode cX7_field 32 = .ok (.iload_n 3, 1) := by decide +kernel
theorem dX7_field_33 : decode cX7_field 33 = .ok (.goto 25, 3) := by decide +kernel
theorem dX7_field_36 : decode cX7_field 36 = .ok (.iload_n 1, 1) := by decide +kernel
theorem dX7_field_37 : decode cX7_field 37 = .ok (.iconst 3, 1) := by decide +kernel
theorem dX7_field_38 : decode cX7_field 38 = .ok (.if_icmp .ne 14, 3) := by decide +kernel
theorem dX7_field_41 : decode cX7_field 41 = .ok (.aload_n 0, 1) := by decide +kernel
theorem dX7_field_42 : decode cX7_field 42 = .ok (.aload_n 0, 1) := by decide +kernel
theorem dX7_field_43 : decode cX7_field 43 = .ok (.getfield 132, 3) := by decide +kernel
theorem dX7_field_46 : decode cX7_field 46 = .ok (.invokevirtual 122, 3) := by decide +kernel
theorem dX7_field_49 : decode cX7_field 49 = .ok (.goto 9, 3) := by decide +kernel
theorem dX7_field_52 : decode cX7_field 52 = .ok (.aload_n 0, 1) := by decide +kernel
theorem dX7_field_53 : decode cX7_field 53 = .ok (.getfield 23, 3) := by decide +kernel
theorem dX7_field_56 : decode cX7_field 56 = .ok (.iload_n 3, 1) := by decide +kernel
theorem dX7_field_57 : decode cX7_field 57 = .ok (.iaload, 1) := by decide +kernel
theorem dX7_field_58 : decode cX7_field 58 = .ok (.ireturn, 1) := by decide +kernel
theorem dX7_holds_0 : decode cX7_holds 0 = .ok (.bipush 15, 2) := by decide +kernel
theorem dX7_holds_2 : decode cX7_holds 2 = .ok (.iload_n 1, 1) := by decide +kernel
theorem dX7_holds_3 : decode cX7_holds 3 = .ok (.imul, 1) := by decide +kernel
theorem dX7_holds_4 : decode cX7_holds 4 = .ok (.istore 4, 2) := by decide +kernel
theorem dX7_holds_6 : decode cX7_holds 6 = .ok (.aload_n 0, 1) := by decide +kernel
theorem dX7_holds_7 : decode cX7_holds 7 = .ok (.getfield 132, 3) := by decide +kernel
theorem dX7_holds_10 : decode cX7_holds 10 = .ok (.aload_n 0, 1) := by decide +kernel
theorem dX7_holds_11 : decode cX7_holds 11 = .ok (.getfield 68, 3) := by decide +kernel
theorem dX7_holds_14 : decode cX7_holds 14 = .ok (.iload 4, 2) := by decide +kernel
theorem dX7_holds_16 : decode cX7_holds 16 = .ok (.iaload, 1) := by decide +kernel
theorem dX7_holds_17 : decode cX7_holds 17 = .ok (.aload_n 0, 1) := by decide +kernel
theorem dX7_holds_18 : decode cX7_holds 18 = .ok (.getfield 68, 3) := by decide +kernel
theorem dX7_holds_21 : decode cX7_holds 21 = .ok (.iload 4, 2) := by decide +kernel
theorem dX7_holds_23 : decode cX7_holds 23 = .ok (.iconst 1, 1) := by decide +kernel
theorem dX7_holds_24 : decode cX7_holds 24 = .ok (.iadd, 1) := by decide +kernel
theorem dX7_holds_25 : decode cX7_holds 25 = .ok (.iaload, 1) := by decide +kernel
theorem dX7_holds_26 : decode cX7_holds 26 = .ok (.iconst 1, 1) := by decide +kernel
theorem dX7_holds_27 : decode cX7_holds 27 = .ok (.isub, 1) := by decide +kernel
theorem dX7_holds_28 : decode cX7_holds 28 = .ok (.invokestatic 87, 3) := by decide +kernel
theorem dX7_holds_31 : decode cX7_holds 31 = .ok (.ifCond .ne 5, 3) := by decide +kernel
theorem dX7_holds_34 : decode cX7_holds 34 = .ok (.iconst 0, 1) := by decide +kernel
theorem dX7_holds_35 : decode cX7_holds 35 = .ok (.ireturn, 1) := by decide +kernel
theorem dX7_holds_36 : decode cX7_holds 36 = .ok (.aload_n 0, 1) := by decide +kernel
theorem dX7_holds_37 : decode cX7_holds 37 = .ok (.getfield 68, 3) := by decide +kernel
theorem dX7_holds_40 : decode cX7_holds 40 = .ok (.iload 4, 2) := by decide +kernel
theorem dX7_holds_42 : decode cX7_holds 42 = .ok (.iconst 4, 1) := by decide +kernel
theorem dX7_holds_43 : decode cX7_holds 43 = .ok (.iadd, 1) := by decide +kernel
theorem dX7_holds_44 : decode cX7_holds 44 = .ok (.iaload, 1) := by decide +kernel
theorem dX7_holds_45 : decode cX7_holds 45 = .ok (.istore 5, 2) := by decide +kernel
theorem dX7_holds_47 : decode cX7_holds 47 = .ok (.iconst 0, 1) := by decide +kernel
theorem dX7_holds_48 : decode cX7_holds 48 = .ok (.istore 6, 2) := by decide +kernel
theorem dX7_holds_50 : decode cX7_holds 50 = .ok (.iconst 0, 1) := by decide +kernel
theorem dX7_holds_51 : decode cX7_holds 51 = .ok (.istore 7, 2) := by decide +kernel
theorem dX7_holds_53 : decode cX7_holds 53 = .ok (.iload 7, 2) := by decide +kernel
theorem dX7_holds_55 : decode cX7_holds 55 = .ok (.iload 5, 2) := by decide +kernel
theorem dX7_holds_57 : decode cX7_holds 57 = .ok (.if_icmp .ge 117, 3) := by decide +kernel
theorem dX7_holds_60 : decode cX7_holds 60 = .ok (.aload_n 0, 1) := by decide +kernel
theorem dX7_holds_61 : decode cX7_holds 61 = .ok (.aload_n 0, 1) := by decide +kernel
theorem dX7_holds_62 : decode cX7_holds 62 = .ok (.getfield 68, 3) := by decide +kernel
theorem dX7_holds_65 : decode cX7_holds 65 = .ok (.iload 4, 2) := by decide +kernel
theorem dX7_holds_67 : decode cX7_holds 67 = .ok (.bipush 6, 2) := by decide +kernel
theorem dX7_holds_69 : decode cX7_holds 69 = .ok (.iadd, 1) := by decide +kernel
theorem dX7_holds_70 : decode cX7_holds 70 = .ok (.iconst 3, 1) := by decide +kernel
theorem dX7_holds_71 : decode cX7_holds 71 = .ok (.iload 7, 2) := by decide +kernel
theorem dX7_holds_73 : decode cX7_holds 73 = .ok (.imul, 1) := by decide +kernel
theorem dX7_holds_74 : decode cX7_holds 74 = .ok (.iadd, 1) := by decide +kernel
theorem dX7_holds_75 : decode cX7_holds 75 = .ok (.iaload, 1) := by decide +kernel
theorem dX7_holds_76 : decode cX7_holds 76 = .ok (.iload_n 2, 1) := by decide +kernel
theorem dX7_holds_77 : decode cX7_holds 77 = .ok (.iload_n 3, 1) := by decide +kernel
theorem dX7_holds_78 : decode cX7_holds 78 = .ok (.invokevirtual 135, 3) := by decide +kernel
theorem dX7_holds_81 : decode cX7_holds 81 = .ok (.istore 8, 2) := by decide +kernel
theorem dX7_holds_83 : decode cX7_holds 83 = .ok (.aload_n 0, 1) := by decide +kernel
theorem dX7_holds_84 : decode cX7_holds 84 = .ok (.getfield 68, 3) := by decide +kernel
theorem dX7_holds_87 : decode cX7_holds 87 = .ok (.iload 4, 2) := by decide +kernel
theorem dX7_holds_89 : decode cX7_holds 89 = .ok (.bipush 7, 2) := by decide +kernel
theorem dX7_holds_91 : decode cX7_holds 91 = .ok (.iadd, 1) := by decide +kernel
theorem dX7_holds_92 : decode cX7_holds 92 = .ok (.iconst 3, 1) := by decide +kernel
theorem dX7_holds_93 : decode cX7_holds 93 = .ok (.iload 7, 2) := by decide +kernel
theorem dX7_holds_95 : decode cX7_holds 95 = .ok (.imul, 1) := by decide +kernel
theorem dX7_holds_96 : decode cX7_holds 96 = .ok (.iadd, 1) := by decide +kernel
theorem dX7_holds_97 : decode cX7_holds 97 = .ok (.iaload, 1) := by decide +kernel
theorem dX7_holds_98 : decode cX7_holds 98 = .ok (.istore 9, 2) := by decide +kernel
theorem dX7_holds_100 : decode cX7_holds 100 = .ok (.aload_n 0, 1) := by decide +kernel
theorem dX7_holds_101 : decode cX7_holds 101 = .ok (.getfield 68, 3) := by decide +kernel
theorem dX7_holds_104 : decode cX7_holds 104 = .ok (.iload 4, 2) := by decide +kernel
theorem dX7_holds_106 : decode cX7_holds 106 = .ok (.bipush 8, 2) := by decide +kernel
theorem dX7_holds_108 : decode cX7_holds 108 = .ok (.iadd, 1) := by decide +kernel
theorem dX7_holds_109 : decode cX7_holds 109 = .ok (.iconst 3, 1) := by decide +kernel
theorem dX7_holds_110 : decode cX7_holds 110 = .ok (.iload 7, 2) := by decide +kernel
theorem dX7_holds_112 : decode cX7_holds 112 = .ok (.imul, 1) := by decide +kernel
theorem dX7_holds_113 : decode cX7_holds 113 = .ok (.iadd, 1) := by decide +kernel
theorem dX7_holds_114 : decode cX7_holds 114 = .ok (.iaload, 1) := by decide +kernel
theorem dX7_holds_115 : decode cX7_holds 115 = .ok (.istore 10, 2) := by decide +kernel
theorem dX7_holds_117 : decode cX7_holds 117 = .ok (.iload 6, 2) := by decide +kernel
theorem dX7_holds_119 : decode cX7_holds 119 = .ok (.iload 9, 2) := by decide +kernel
theorem dX7_holds_121 : decode cX7_holds 121 = .ok (.bipush 61, 2) := by decide +kernel
theorem dX7_holds_123 : decode cX7_holds 123 = .ok (.if_icmp .ne 13, 3) := by decide +kernel
theorem dX7_holds_126 : decode cX7_holds 126 = .ok (.iload 8, 2) := by decide +kernel
theorem dX7_holds_128 : decode cX7_holds 128 = .ok (.iload 10, 2) := by decide +kernel
theorem dX7_holds_130 : decode cX7_holds 130 = .ok (.if_icmp .ne 34, 3) := by decide +kernel
theorem dX7_holds_133 : decode cX7_holds 133 = .ok (.goto 27, 3) := by decide +kernel
theorem dX7_holds_136 : decode cX7_holds 136 = .ok (.iload 9, 2) := by decide +kernel
theorem dX7_holds_138 : decode cX7_holds 138 = .ok (.bipush 60, 2) := by decide +kernel
theorem dX7_holds_140 : decode cX7_holds 140 = .ok (.if_icmp .ne 13, 3) := by decide +kernel
theorem dX7_holds_143 : decode cX7_holds 143 = .ok (.iload 8, 2) := by decide +kernel
theorem dX7_holds_145 : decode cX7_holds 145 = .ok (.iload 10, 2) := by decide +kernel
theorem dX7_holds_147 : decode cX7_holds 147 = .ok (.if_icmp .ge 17, 3) := by decide +kernel
theorem dX7_holds_150 : decode cX7_holds 150 = .ok (.goto 10, 3) := by decide +kernel
theorem dX7_holds_153 : decode cX7_holds 153 = .ok (.iload 8, 2) := by decide +kernel
theorem dX7_holds_155 : decode cX7_holds 155 = .ok (.iload 10, 2) := by decide +kernel
theorem dX7_holds_157 : decode cX7_holds 157 = .ok (.if_icmp .le 7, 3) := by decide +kernel
theorem dX7_holds_160 : decode cX7_holds 160 = .ok (.iconst 1, 1) := by decide +kernel
theorem dX7_holds_161 : decode cX7_holds 161 = .ok (.goto 4, 3) := by decide +kernel
theorem dX7_holds_164 : decode cX7_holds 164 = .ok (.iconst 0, 1) := by decide +kernel
theorem dX7_holds_165 : decode cX7_holds 165 = .ok (.iadd, 1) := by decide +kernel
theorem dX7_holds_166 : decode cX7_holds 166 = .ok (.istore 6, 2) := by decide +kernel
theorem dX7_holds_168 : decode cX7_holds 168 = .ok (.iinc 7 1, 3) := by decide +kernel
theorem dX7_holds_171 : decode cX7_holds 171 = .ok (.goto (-118), 3) := by decide +kernel
theorem dX7_holds_174 : decode cX7_holds 174 = .ok (.aload_n 0, 1) := by decide +kernel
theorem dX7_holds_175 : decode cX7_holds 175 = .ok (.getfield 68, 3) := by decide +kernel
theorem dX7_holds_178 : decode cX7_holds 178 = .ok (.iload 4, 2) := by decide +kernel
theorem dX7_holds_180 : decode cX7_holds 180 = .ok (.iconst 5, 1) := by decide +kernel
theorem dX7_holds_181 : decode cX7_holds 181 = .ok (.iadd, 1) := by decide +kernel
theorem dX7_holds_182 : decode cX7_holds 182 = .ok (.iaload, 1) := by decide +kernel
theorem dX7_holds_183 : decode cX7_holds 183 = .ok (.iconst 1, 1) := by decide +kernel
theorem dX7_holds_184 : decode cX7_holds 184 = .ok (.if_icmp .ne 16, 3) := by decide +kernel
theorem dX7_holds_187 : decode cX7_holds 187 = .ok (.iload 6, 2) := by decide +kernel
theorem dX7_holds_189 : decode cX7_holds 189 = .ok (.ifCond .le 7, 3) := by decide +kernel
theorem dX7_holds_192 : decode cX7_holds 192 = .ok (.iconst 1, 1) := by decide +kernel
theorem dX7_holds_193 : decode cX7_holds 193 = .ok (.goto 19, 3) := by decide +kernel
theorem dX7_holds_196 : decode cX7_holds 196 = .ok (.iconst 0, 1) := by decide +kernel
theorem dX7_holds_197 : decode cX7_holds 197 = .ok (.goto 15, 3) := by decide +kernel
theorem dX7_holds_200 : decode cX7_holds 200 = .ok (.iload 6, 2) := by decide +kernel
theorem dX7_holds_202 : decode cX7_holds 202 = .ok (.iload 5, 2) := by decide +kernel
theorem dX7_holds_204 : decode cX7_holds 204 = .ok (.if_icmp .ne 7, 3) := by decide +kernel
theorem dX7_holds_207 : decode cX7_holds 207 = .ok (.iconst 1, 1) := by decide +kernel
theorem dX7_holds_208 : decode cX7_holds 208 = .ok (.goto 4, 3) := by decide +kernel
theorem dX7_holds_211 : decode cX7_holds 211 = .ok (.iconst 0, 1) := by decide +kernel
theorem dX7_holds_212 : decode cX7_holds 212 = .ok (.ireturn, 1) := by decide +kernel
theorem dX7_saidOf_0 : decode cX7_saidOf 0 = .ok (.aload_n 0, 1) := by decide +kernel
theorem dX7_saidOf_1 : decode cX7_saidOf 1 = .ok (.getfield 139, 3) := by decide +kernel
theorem dX7_saidOf_4 : decode cX7_saidOf 4 = .ok (.iconst 1, 1) := by decide +kernel
theorem dX7_saidOf_5 : decode cX7_saidOf 5 = .ok (.isub, 1) := by decide +kernel
theorem dX7_saidOf_6 : decode cX7_saidOf 6 = .ok (.istore 4, 2) := by decide +kernel
theorem dX7_saidOf_8 : decode cX7_saidOf 8 = .ok (.iload 4, 2) := by decide +kernel
theorem dX7_saidOf_10 : decode cX7_saidOf 10 = .ok (.ifCond .lt 49, 3) := by decide +kernel
theorem dX7_saidOf_13 : decode cX7_saidOf 13 = .ok (.aload_n 0, 1) := by decide +kernel
theorem dX7_saidOf_14 : decode cX7_saidOf 14 = .ok (.getfield 68, 3) := by decide +kernel
theorem dX7_saidOf_17 : decode cX7_saidOf 17 = .ok (.bipush 15, 2) := by decide +kernel
theorem dX7_saidOf_19 : decode cX7_saidOf 19 = .ok (.iload 4, 2) := by decide +kernel
theorem dX7_saidOf_21 : decode cX7_saidOf 21 = .ok (.imul, 1) := by decide +kernel
theorem dX7_saidOf_22 : decode cX7_saidOf 22 = .ok (.iconst 2, 1) := by decide +kernel
theorem dX7_saidOf_23 : decode cX7_saidOf 23 = .ok (.iadd, 1) := by decide +kernel
theorem dX7_saidOf_24 : decode cX7_saidOf 24 = .ok (.iaload, 1) := by decide +kernel
theorem dX7_saidOf_25 : decode cX7_saidOf 25 = .ok (.iload_n 3, 1) := by decide +kernel
theorem dX7_saidOf_26 : decode cX7_saidOf 26 = .ok (.if_icmp .ne 27, 3) := by decide +kernel
theorem dX7_saidOf_29 : decode cX7_saidOf 29 = .ok (.aload_n 0, 1) := by decide +kernel
theorem dX7_saidOf_30 : decode cX7_saidOf 30 = .ok (.iload 4, 2) := by decide +kernel
theorem dX7_saidOf_32 : decode cX7_saidOf 32 = .ok (.iload_n 1, 1) := by decide +kernel
theorem dX7_saidOf_33 : decode cX7_saidOf 33 = .ok (.iload_n 2, 1) := by decide +kernel
theorem dX7_saidOf_34 : decode cX7_saidOf 34 = .ok (.invokevirtual 142, 3) := by decide +kernel
theorem dX7_saidOf_37 : decode cX7_saidOf 37 = .ok (.ifCond .eq 16, 3) := by decide +kernel
theorem dX7_saidOf_40 : decode cX7_saidOf 40 = .ok (.aload_n 0, 1) := by decide +kernel
theorem dX7_saidOf_41 : decode cX7_saidOf 41 = .ok (.getfield 68, 3) := by decide +kernel
theorem dX7_saidOf_44 : decode cX7_saidOf 44 = .ok (.bipush 15, 2) := by decide +kernel
theorem dX7_saidOf_46 : decode cX7_saidOf 46 = .ok (.iload 4, 2) := by decide +kernel
theorem dX7_saidOf_48 : decode cX7_saidOf 48 = .ok (.imul, 1) := by decide +kernel
theorem dX7_saidOf_49 : decode cX7_saidOf 49 = .ok (.iconst 3, 1) := by decide +kernel
theorem dX7_saidOf_50 : decode cX7_saidOf 50 = .ok (.iadd, 1) := by decide +kernel
theorem dX7_saidOf_51 : decode cX7_saidOf 51 = .ok (.iaload, 1) := by decide +kernel
theorem dX7_saidOf_52 : decode cX7_saidOf 52 = .ok (.ireturn, 1) := by decide +kernel
theorem dX7_saidOf_53 : decode cX7_saidOf 53 = .ok (.iinc 4 (-1), 3) := by decide +kernel
theorem dX7_saidOf_56 : decode cX7_saidOf 56 = .ok (.goto (-48), 3) := by decide +kernel
theorem dX7_saidOf_59 : decode cX7_saidOf 59 = .ok (.iload_n 3, 1) := by decide +kernel
theorem dX7_saidOf_60 : decode cX7_saidOf 60 = .ok (.iconst 1, 1) := by decide +kernel
theorem dX7_saidOf_61 : decode cX7_saidOf 61 = .ok (.if_icmp .ne 7, 3) := by decide +kernel
theorem dX7_saidOf_64 : decode cX7_saidOf 64 = .ok (.iconst 1, 1) := by decide +kernel
theorem dX7_saidOf_65 : decode cX7_saidOf 65 = .ok (.goto 4, 3) := by decide +kernel
theorem dX7_saidOf_68 : decode cX7_saidOf 68 = .ok (.iconst 0, 1) := by decide +kernel
theorem dX7_saidOf_69 : decode cX7_saidOf 69 = .ok (.ireturn, 1) := by decide +kernel
theorem dX7_whyNot_0 : decode cX7_whyNot 0 = .ok (.aload_n 0, 1) := by decide +kernel
theorem dX7_whyNot_1 : decode cX7_whyNot 1 = .ok (.iload_n 1, 1) := by decide +kernel
theorem dX7_whyNot_2 : decode cX7_whyNot 2 = .ok (.iload_n 2, 1) := by decide +kernel
theorem dX7_whyNot_3 : decode cX7_whyNot 3 = .ok (.iconst 2, 1) := by decide +kernel
theorem dX7_whyNot_4 : decode cX7_whyNot 4 = .ok (.invokevirtual 145, 3) := by decide +kernel
theorem dX7_whyNot_7 : decode cX7_whyNot 7 = .ok (.ifCond .eq 5, 3) := by decide +kernel
theorem dX7_whyNot_10 : decode cX7_whyNot 10 = .ok (.iconst 1, 1) := by decide +kernel
theorem dX7_whyNot_11 : decode cX7_whyNot 11 = .ok (.ireturn, 1) := by decide +kernel
theorem dX7_whyNot_12 : decode cX7_whyNot 12 = .ok (.aload_n 0, 1) := by decide +kernel
theorem dX7_whyNot_13 : decode cX7_whyNot 13 = .ok (.iload_n 2, 1) := by decide +kernel
theorem dX7_whyNot_14 : decode cX7_whyNot 14 = .ok (.invokevirtual 106, 3) := by decide +kernel
theorem dX7_whyNot_17 : decode cX7_whyNot 17 = .ok (.aload_n 0, 1) := by decide +kernel
theorem dX7_whyNot_18 : decode cX7_whyNot 18 = .ok (.iload_n 1, 1) := by decide +kernel
theorem dX7_whyNot_19 : decode cX7_whyNot 19 = .ok (.iload_n 2, 1) := by decide +kernel
theorem dX7_whyNot_20 : decode cX7_whyNot 20 = .ok (.iconst 0, 1) := by decide +kernel
theorem dX7_whyNot_21 : decode cX7_whyNot 21 = .ok (.invokevirtual 145, 3) := by decide +kernel
theorem dX7_whyNot_24 : decode cX7_whyNot 24 = .ok (.if_icmp .ge 5, 3) := by decide +kernel
theorem dX7_whyNot_27 : decode cX7_whyNot 27 = .ok (.iconst 2, 1) := by decide +kernel
theorem dX7_whyNot_28 : decode cX7_whyNot 28 = .ok (.ireturn, 1) := by decide +kernel
theorem dX7_whyNot_29 : decode cX7_whyNot 29 = .ok (.aload_n 0, 1) := by decide +kernel
theorem dX7_whyNot_30 : decode cX7_whyNot 30 = .ok (.getfield 41, 3) := by decide +kernel
theorem dX7_whyNot_33 : decode cX7_whyNot 33 = .ok (.iconst 2, 1) := by decide +kernel
theorem dX7_whyNot_34 : decode cX7_whyNot 34 = .ok (.iload_n 2, 1) := by decide +kernel
theorem dX7_whyNot_35 : decode cX7_whyNot 35 = .ok (.imul, 1) := by decide +kernel
theorem dX7_whyNot_36 : decode cX7_whyNot 36 = .ok (.aload_n 0, 1) := by decide +kernel
theorem dX7_whyNot_37 : decode cX7_whyNot 37 = .ok (.getfield 53, 3) := by decide +kernel
theorem dX7_whyNot_40 : decode cX7_whyNot 40 = .ok (.iload_n 1, 1) := by decide +kernel
theorem dX7_whyNot_41 : decode cX7_whyNot 41 = .ok (.iaload, 1) := by decide +kernel
theorem dX7_whyNot_42 : decode cX7_whyNot 42 = .ok (.iadd, 1) := by decide +kernel
theorem dX7_whyNot_43 : decode cX7_whyNot 43 = .ok (.iaload, 1) := by decide +kernel
theorem dX7_whyNot_44 : decode cX7_whyNot 44 = .ok (.istore_n 3, 1) := by decide +kernel
theorem dX7_whyNot_45 : decode cX7_whyNot 45 = .ok (.iload_n 3, 1) := by decide +kernel
theorem dX7_whyNot_46 : decode cX7_whyNot 46 = .ok (.iconst (-1), 1) := by decide +kernel
theorem dX7_whyNot_47 : decode cX7_whyNot 47 = .ok (.if_icmp .eq 23, 3) := by decide +kernel
theorem dX7_whyNot_50 : decode cX7_whyNot 50 = .ok (.aload_n 0, 1) := by decide +kernel
theorem dX7_whyNot_51 : decode cX7_whyNot 51 = .ok (.getfield 132, 3) := by decide +kernel
theorem dX7_whyNot_54 : decode cX7_whyNot 54 = .ok (.iload_n 3, 1) := by decide +kernel
theorem dX7_whyNot_55 : decode cX7_whyNot 55 = .ok (.isub, 1) := by decide +kernel
theorem dX7_whyNot_56 : decode cX7_whyNot 56 = .ok (.aload_n 0, 1) := by decide +kernel
theorem dX7_whyNot_57 : decode cX7_whyNot 57 = .ok (.iload_n 1, 1) := by decide +kernel
theorem dX7_whyNot_58 : decode cX7_whyNot 58 = .ok (.iload_n 2, 1) := by decide +kernel
theorem dX7_whyNot_59 : decode cX7_whyNot 59 = .ok (.iconst 1, 1) := by decide +kernel
theorem dX7_whyNot_60 : decode cX7_whyNot 60 = .ok (.invokevirtual 145, 3) := by decide +kernel
theorem dX7_whyNot_63 : decode cX7_whyNot 63 = .ok (.if_icmp .ge 7, 3) := by decide +kernel
theorem dX7_whyNot_66 : decode cX7_whyNot 66 = .ok (.iconst 3, 1) := by decide +kernel
theorem dX7_whyNot_67 : decode cX7_whyNot 67 = .ok (.goto 4, 3) := by decide +kernel
theorem dX7_whyNot_70 : decode cX7_whyNot 70 = .ok (.iconst 0, 1) := by decide +kernel
theorem dX7_whyNot_71 : decode cX7_whyNot 71 = .ok (.ireturn, 1) := by decide +kernel
theorem dX7_may_0 : decode cX7_may 0 = .ok (.aload_n 0, 1) := by decide +kernel
theorem dX7_may_1 : decode cX7_may 1 = .ok (.iload_n 1, 1) := by decide +kernel
theorem dX7_may_2 : decode cX7_may 2 = .ok (.invokevirtual 129, 3) := by decide +kernel
theorem dX7_may_5 : decode cX7_may 5 = .ok (.ifCond .eq 11, 3) := by decide +kernel
theorem dX7_may_8 : decode cX7_may 8 = .ok (.aload_n 0, 1) := by decide +kernel
theorem dX7_may_9 : decode cX7_may 9 = .ok (.iload_n 2, 1) := by decide +kernel
theorem dX7_may_10 : decode cX7_may 10 = .ok (.invokevirtual 98, 3) := by decide +kernel
theorem dX7_may_13 : decode cX7_may 13 = .ok (.ifCond .ne 10, 3) := by decide +kernel
theorem dX7_may_16 : decode cX7_may 16 = .ok (.aload_n 0, 1) := by decide +kernel
theorem dX7_may_17 : decode cX7_may 17 = .ok (.bipush (-3), 2) := by decide +kernel
theorem dX7_may_19 : decode cX7_may 19 = .ok (.invokevirtual 94, 3) := by decide +kernel
theorem dX7_may_22 : decode cX7_may 22 = .ok (.ireturn, 1) := by decide +kernel
theorem dX7_may_23 : decode cX7_may 23 = .ok (.aload_n 0, 1) := by decide +kernel
theorem dX7_may_24 : decode cX7_may 24 = .ok (.iload_n 1, 1) := by decide +kernel
theorem dX7_may_25 : decode cX7_may 25 = .ok (.iload_n 2, 1) := by decide +kernel
theorem dX7_may_26 : decode cX7_may 26 = .ok (.invokevirtual 148, 3) := by decide +kernel
theorem dX7_may_29 : decode cX7_may 29 = .ok (.ifCond .ne 7, 3) := by decide +kernel
theorem dX7_may_32 : decode cX7_may 32 = .ok (.iconst 1, 1) := by decide +kernel
theorem dX7_may_33 : decode cX7_may 33 = .ok (.goto 4, 3) := by decide +kernel
theorem dX7_may_36 : decode cX7_may 36 = .ok (.iconst 0, 1) := by decide +kernel
theorem dX7_may_37 : decode cX7_may 37 = .ok (.ireturn, 1) := by decide +kernel
theorem dX7_why_0 : decode cX7_why 0 = .ok (.aload_n 0, 1) := by decide +kernel
theorem dX7_why_1 : decode cX7_why 1 = .ok (.iload_n 1, 1) := by decide +kernel
