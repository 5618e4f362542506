theorem dX6_divide_311 : decode cX6_divide 311 = .ok (.lstore 13, 2) := by decide +kernel
theorem dX6_divide_313 : decode cX6_divide 313 = .ok (.iinc 15 1, 3) := by decide +kernel
theorem dX6_divide_316 : decode cX6_divide 316 = .ok (.goto (-72), 3) := by decide +kernel
theorem dX6_divide_319 : decode cX6_divide 319 = .ok (.aload_n 0, 1) := by decide +kernel
theorem dX6_divide_320 : decode cX6_divide 320 = .ok (.getfield 7, 3) := by decide +kernel
theorem dX6_divide_323 : decode cX6_divide 323 = .ok (.sipush 9360, 3) := by decide +kernel
theorem dX6_divide_326 : decode cX6_divide 326 = .ok (.iload 8, 2) := by decide +kernel
theorem dX6_divide_328 : decode cX6_divide 328 = .ok (.iadd, 1) := by decide +kernel
theorem dX6_divide_329 : decode cX6_divide 329 = .ok (.iload 4, 2) := by decide +kernel
theorem dX6_divide_331 : decode cX6_divide 331 = .ok (.iadd, 1) := by decide +kernel
theorem dX6_divide_332 : decode cX6_divide 332 = .ok (.iaload, 1) := by decide +kernel
theorem dX6_divide_333 : decode cX6_divide 333 = .ok (.i2l, 1) := by decide +kernel
theorem dX6_divide_334 : decode cX6_divide 334 = .ok (.lload 13, 2) := by decide +kernel
theorem dX6_divide_336 : decode cX6_divide 336 = .ok (.lsub, 1) := by decide +kernel
theorem dX6_divide_337 : decode cX6_divide 337 = .ok (.lstore 15, 2) := by decide +kernel
theorem dX6_divide_339 : decode cX6_divide 339 = .ok (.lload 15, 2) := by decide +kernel
theorem dX6_divide_341 : decode cX6_divide 341 = .ok (.lconst 0, 1) := by decide +kernel
theorem dX6_divide_342 : decode cX6_divide 342 = .ok (.lcmp, 1) := by decide +kernel
theorem dX6_divide_343 : decode cX6_divide 343 = .ok (.ifCond .ge 93, 3) := by decide +kernel
theorem dX6_divide_346 : decode cX6_divide 346 = .ok (.lload 11, 2) := by decide +kernel
theorem dX6_divide_348 : decode cX6_divide 348 = .ok (.lconst 1, 1) := by decide +kernel
theorem dX6_divide_349 : decode cX6_divide 349 = .ok (.lsub, 1) := by decide +kernel
theorem dX6_divide_350 : decode cX6_divide 350 = .ok (.lstore 11, 2) := by decide +kernel
theorem dX6_divide_352 : decode cX6_divide 352 = .ok (.iconst 0, 1) := by decide +kernel
theorem dX6_divide_353 : decode cX6_divide 353 = .ok (.istore 17, 2) := by decide +kernel
theorem dX6_divide_355 : decode cX6_divide 355 = .ok (.iconst 0, 1) := by decide +kernel
theorem dX6_divide_356 : decode cX6_divide 356 = .ok (.istore 18, 2) := by decide +kernel
theorem dX6_divide_358 : decode cX6_divide 358 = .ok (.iload 18, 2) := by decide +kernel
theorem dX6_divide_360 : decode cX6_divide 360 = .ok (.iload 4, 2) := by decide +kernel
theorem dX6_divide_362 : decode cX6_divide 362 = .ok (.if_icmp .ge 63, 3) := by decide +kernel
theorem dX6_divide_365 : decode cX6_divide 365 = .ok (.aload_n 0, 1) := by decide +kernel
theorem dX6_divide_366 : decode cX6_divide 366 = .ok (.getfield 7, 3) := by decide +kernel
theorem dX6_divide_369 : decode cX6_divide 369 = .ok (.sipush 9360, 3) := by decide +kernel
theorem dX6_divide_372 : decode cX6_divide 372 = .ok (.iload 8, 2) := by decide +kernel
theorem dX6_divide_374 : decode cX6_divide 374 = .ok (.iadd, 1) := by decide +kernel
theorem dX6_divide_375 : decode cX6_divide 375 = .ok (.iload 18, 2) := by decide +kernel
theorem dX6_divide_377 : decode cX6_divide 377 = .ok (.iadd, 1) := by decide +kernel
theorem dX6_divide_378 : decode cX6_divide 378 = .ok (.iaload, 1) := by decide +kernel
theorem dX6_divide_379 : decode cX6_divide 379 = .ok (.aload_n 0, 1) := by decide +kernel
theorem dX6_divide_380 : decode cX6_divide 380 = .ok (.getfield 7, 3) := by decide +kernel
theorem dX6_divide_383 : decode cX6_divide 383 = .ok (.sipush 9880, 3) := by decide +kernel
theorem dX6_divide_386 : decode cX6_divide 386 = .ok (.iload 18, 2) := by decide +kernel
theorem dX6_divide_388 : decode cX6_divide 388 = .ok (.iadd, 1) := by decide +kernel
theorem dX6_divide_389 : decode cX6_divide 389 = .ok (.iaload, 1) := by decide +kernel
theorem dX6_divide_390 : decode cX6_divide 390 = .ok (.iadd, 1) := by decide +kernel
theorem dX6_divide_391 : decode cX6_divide 391 = .ok (.iload 17, 2) := by decide +kernel
theorem dX6_divide_393 : decode cX6_divide 393 = .ok (.iadd, 1) := by decide +kernel
theorem dX6_divide_394 : decode cX6_divide 394 = .ok (.istore 19, 2) := by decide +kernel
theorem dX6_divide_396 : decode cX6_divide 396 = .ok (.aload_n 0, 1) := by decide +kernel
theorem dX6_divide_397 : decode cX6_divide 397 = .ok (.bipush 18, 2) := by decide +kernel
theorem dX6_divide_399 : decode cX6_divide 399 = .ok (.iload 8, 2) := by decide +kernel
theorem dX6_divide_401 : decode cX6_divide 401 = .ok (.iload 18, 2) := by decide +kernel
theorem dX6_divide_403 : decode cX6_divide 403 = .ok (.iadd, 1) := by decide +kernel
theorem dX6_divide_404 : decode cX6_divide 404 = .ok (.iload 19, 2) := by decide +kernel
theorem dX6_divide_406 : decode cX6_divide 406 = .ok (.ldc 43, 2) := by decide +kernel
theorem dX6_divide_408 : decode cX6_divide 408 = .ok (.iand, 1) := by decide +kernel
theorem dX6_divide_409 : decode cX6_divide 409 = .ok (.invokevirtual 35, 3) := by decide +kernel
theorem dX6_divide_412 : decode cX6_divide 412 = .ok (.iload 19, 2) := by decide +kernel
theorem dX6_divide_414 : decode cX6_divide 414 = .ok (.bipush 16, 2) := by decide +kernel
theorem dX6_divide_416 : decode cX6_divide 416 = .ok (.ishr, 1) := by decide +kernel
theorem dX6_divide_417 : decode cX6_divide 417 = .ok (.istore 17, 2) := by decide +kernel
theorem dX6_divide_419 : decode cX6_divide 419 = .ok (.iinc 18 1, 3) := by decide +kernel
theorem dX6_divide_422 : decode cX6_divide 422 = .ok (.goto (-64), 3) := by decide +kernel
theorem dX6_divide_425 : decode cX6_divide 425 = .ok (.lload 15, 2) := by decide +kernel
theorem dX6_divide_427 : decode cX6_divide 427 = .ok (.iload 17, 2) := by decide +kernel
theorem dX6_divide_429 : decode cX6_divide 429 = .ok (.i2l, 1) := by decide +kernel
theorem dX6_divide_430 : decode cX6_divide 430 = .ok (.ladd, 1) := by decide +kernel
theorem dX6_divide_431 : decode cX6_divide 431 = .ok (.lstore 15, 2) := by decide +kernel
theorem dX6_divide_433 : decode cX6_divide 433 = .ok (.goto (-94), 3) := by decide +kernel
theorem dX6_divide_436 : decode cX6_divide 436 = .ok (.aload_n 0, 1) := by decide +kernel
theorem dX6_divide_437 : decode cX6_divide 437 = .ok (.bipush 18, 2) := by decide +kernel
theorem dX6_divide_439 : decode cX6_divide 439 = .ok (.iload 8, 2) := by decide +kernel
theorem dX6_divide_441 : decode cX6_divide 441 = .ok (.iload 4, 2) := by decide +kernel
theorem dX6_divide_443 : decode cX6_divide 443 = .ok (.iadd, 1) := by decide +kernel
theorem dX6_divide_444 : decode cX6_divide 444 = .ok (.lload 15, 2) := by decide +kernel
theorem dX6_divide_446 : decode cX6_divide 446 = .ok (.l2i, 1) := by decide +kernel
theorem dX6_divide_447 : decode cX6_divide 447 = .ok (.invokevirtual 35, 3) := by decide +kernel
theorem dX6_divide_450 : decode cX6_divide 450 = .ok (.aload_n 0, 1) := by decide +kernel
theorem dX6_divide_451 : decode cX6_divide 451 = .ok (.bipush 16, 2) := by decide +kernel
theorem dX6_divide_453 : decode cX6_divide 453 = .ok (.iload 8, 2) := by decide +kernel
theorem dX6_divide_455 : decode cX6_divide 455 = .ok (.lload 11, 2) := by decide +kernel
theorem dX6_divide_457 : decode cX6_divide 457 = .ok (.l2i, 1) := by decide +kernel
theorem dX6_divide_458 : decode cX6_divide 458 = .ok (.invokevirtual 35, 3) := by decide +kernel
theorem dX6_divide_461 : decode cX6_divide 461 = .ok (.iinc 8 (-1), 3) := by decide +kernel
theorem dX6_divide_464 : decode cX6_divide 464 = .ok (.goto (-295), 3) := by decide +kernel
theorem dX6_divide_467 : decode cX6_divide 467 = .ok (.aload_n 0, 1) := by decide +kernel
theorem dX6_divide_468 : decode cX6_divide 468 = .ok (.bipush 16, 2) := by decide +kernel
theorem dX6_divide_470 : decode cX6_divide 470 = .ok (.iload 5, 2) := by decide +kernel
theorem dX6_divide_472 : decode cX6_divide 472 = .ok (.iload 4, 2) := by decide +kernel
theorem dX6_divide_474 : decode cX6_divide 474 = .ok (.isub, 1) := by decide +kernel
theorem dX6_divide_475 : decode cX6_divide 475 = .ok (.invokevirtual 44, 3) := by decide +kernel
theorem dX6_divide_478 : decode cX6_divide 478 = .ok (.aload_n 0, 1) := by decide +kernel
theorem dX6_divide_479 : decode cX6_divide 479 = .ok (.bipush 18, 2) := by decide +kernel
theorem dX6_divide_481 : decode cX6_divide 481 = .ok (.iload 4, 2) := by decide +kernel
theorem dX6_divide_483 : decode cX6_divide 483 = .ok (.invokevirtual 44, 3) := by decide +kernel
theorem dX6_divide_486 : decode cX6_divide 486 = .ok (.aload_n 0, 1) := by decide +kernel
theorem dX6_divide_487 : decode cX6_divide 487 = .ok (.bipush 17, 2) := by decide +kernel
theorem dX6_divide_489 : decode cX6_divide 489 = .ok (.bipush 18, 2) := by decide +kernel
theorem dX6_divide_491 : decode cX6_divide 491 = .ok (.iload_n 3, 1) := by decide +kernel
theorem dX6_divide_492 : decode cX6_divide 492 = .ok (.invokevirtual 58, 3) := by decide +kernel
theorem dX6_divide_495 : decode cX6_divide 495 = .ok (.return_, 1) := by decide +kernel
theorem dX6_is_0 : decode cX6_is 0 = .ok (.iload_n 1, 1) := by decide +kernel
theorem dX6_is_1 : decode cX6_is 1 = .ok (.ifCond .lt 15, 3) := by decide +kernel
theorem dX6_is_4 : decode cX6_is 4 = .ok (.iload_n 1, 1) := by decide +kernel
theorem dX6_is_5 : decode cX6_is 5 = .ok (.aload_n 0, 1) := by decide +kernel
theorem dX6_is_6 : decode cX6_is 6 = .ok (.getfield 26, 3) := by decide +kernel
theorem dX6_is_9 : decode cX6_is 9 = .ok (.if_icmp .ge 7, 3) := by decide +kernel
theorem dX6_is_12 : decode cX6_is 12 = .ok (.iconst 1, 1) := by decide +kernel
theorem dX6_is_13 : decode cX6_is 13 = .ok (.goto 4, 3) := by decide +kernel
theorem dX6_is_16 : decode cX6_is 16 = .ok (.iconst 0, 1) := by decide +kernel
theorem dX6_is_17 : decode cX6_is 17 = .ok (.ireturn, 1) := by decide +kernel
set_option maxRecDepth 20000 in
theorem ggX6_keep_X6_move : GoodIn wsX6_keep wsX6_move := goodIn_r _ [7, 1, 8, 9, 10, 11, 12, 13, 14, 15, 16, 17, 18] rfl (by decide +kernel)
set_option maxRecDepth 20000 in
theorem gX6_keep_X6_move : GoodIn wsX6_keep (wsV RX6 51 RX6 yX6_move wsX6_move) := goodIn_app (goodIn_of _ (by decide +kernel)) ggX6_keep_X6_move
theorem dX6_keep_0 : decode cX6_keep 0 = .ok (.aload_n 0, 1) := by decide +kernel
theorem dX6_keep_1 : decode cX6_keep 1 = .ok (.getfield 13, 3) := by decide +kernel
theorem dX6_keep_4 : decode cX6_keep 4 = .ok (.iload_n 2, 1) := by decide +kernel
theorem dX6_keep_5 : decode cX6_keep 5 = .ok (.iaload, 1) := by decide +kernel
theorem dX6_keep_6 : decode cX6_keep 6 = .ok (.aload_n 0, 1) := by decide +kernel
theorem dX6_keep_7 : decode cX6_keep 7 = .ok (.getfield 30, 3) := by decide +kernel
theorem dX6_keep_10 : decode cX6_keep 10 = .ok (.if_icmp .le 6, 3) := by decide +kernel
theorem dX6_keep_13 : decode cX6_keep 13 = .ok (.bipush (-3), 2) := by decide +kernel
theorem dX6_keep_15 : decode cX6_keep 15 = .ok (.ireturn, 1) := by decide +kernel
theorem dX6_keep_16 : decode cX6_keep 16 = .ok (.aload_n 0, 1) := by decide +kernel
theorem dX6_keep_17 : decode cX6_keep 17 = .ok (.iload_n 1, 1) := by decide +kernel
theorem dX6_keep_18 : decode cX6_keep 18 = .ok (.iload_n 2, 1) := by decide +kernel
theorem dX6_keep_19 : decode cX6_keep 19 = .ok (.invokevirtual 51, 3) := by decide +kernel
theorem dX6_keep_22 : decode cX6_keep 22 = .ok (.iconst 0, 1) := by decide +kernel
theorem dX6_keep_23 : decode cX6_keep 23 = .ok (.ireturn, 1) := by decide +kernel
set_option maxRecDepth 20000 in
theorem ggX6_set_X6_is : GoodIn wsX6_set wsX6_is := goodIn_r _ [6, 7, 28, 29, 30, 31, 32, 33, 34, 35, 36] rfl (by decide +kernel)
set_option maxRecDepth 20000 in
theorem gX6_set_X6_is : GoodIn wsX6_set (wsV RX6 61 RX6 yX6_is wsX6_is) := goodIn_app (goodIn_of _ (by decide +kernel)) ggX6_set_X6_is
set_option maxRecDepth 20000 in
theorem ggX6_set_X6_small : GoodIn wsX6_set wsX6_small := goodIn_r _ [11, 12, 13, 1, 14, 15, 16, 5, 17, 18, 28, 29, 30, 31, 32, 33, 34, 35, 36] rfl (by decide +kernel)
set_option maxRecDepth 20000 in
theorem gX6_set_X6_small : GoodIn wsX6_set (wsV RX6 65 RX6 yX6_small wsX6_small) := goodIn_app (goodIn_of _ (by decide +kernel)) ggX6_set_X6_small
set_option maxRecDepth 20000 in
theorem ggX6_set_X6_keep : GoodIn wsX6_set wsX6_keep := goodIn_r _ [22, 13, 23, 24, 25, 26, 5, 27, 18, 1, 28, 29, 30, 31, 32, 33, 34, 35, 36] rfl (by decide +kernel)
set_option maxRecDepth 20000 in
theorem gX6_set_X6_keep : GoodIn wsX6_set (wsV RX6 69 RX6 yX6_keep wsX6_keep) := goodIn_app (goodIn_of _ (by decide +kernel)) ggX6_set_X6_keep
theorem dX6_set_0 : decode cX6_set 0 = .ok (.aload_n 0, 1) := by decide +kernel
theorem dX6_set_1 : decode cX6_set 1 = .ok (.iload_n 1, 1) := by decide +kernel
theorem dX6_set_2 : decode cX6_set 2 = .ok (.invokevirtual 61, 3) := by decide +kernel
theorem dX6_set_5 : decode cX6_set 5 = .ok (.ifCond .ne 5, 3) := by decide +kernel
theorem dX6_set_8 : decode cX6_set 8 = .ok (.iconst (-1), 1) := by decide +kernel
theorem dX6_set_9 : decode cX6_set 9 = .ok (.ireturn, 1) := by decide +kernel
theorem dX6_set_10 : decode cX6_set 10 = .ok (.aload_n 0, 1) := by decide +kernel
theorem dX6_set_11 : decode cX6_set 11 = .ok (.bipush 12, 2) := by decide +kernel
theorem dX6_set_13 : decode cX6_set 13 = .ok (.iload_n 2, 1) := by decide +kernel
theorem dX6_set_14 : decode cX6_set 14 = .ok (.ifCond .ge 9, 3) := by decide +kernel
theorem dX6_set_17 : decode cX6_set 17 = .ok (.iload_n 2, 1) := by decide +kernel
theorem dX6_set_18 : decode cX6_set 18 = .ok (.i2l, 1) := by decide +kernel
theorem dX6_set_19 : decode cX6_set 19 = .ok (.lneg, 1) := by decide +kernel
theorem dX6_set_20 : decode cX6_set 20 = .ok (.goto 5, 3) := by decide +kernel
theorem dX6_set_23 : decode cX6_set 23 = .ok (.iload_n 2, 1) := by decide +kernel
theorem dX6_set_24 : decode cX6_set 24 = .ok (.i2l, 1) := by decide +kernel
theorem dX6_set_25 : decode cX6_set 25 = .ok (.invokevirtual 65, 3) := by decide +kernel
theorem dX6_set_28 : decode cX6_set 28 = .ok (.aload_n 0, 1) := by decide +kernel
theorem dX6_set_29 : decode cX6_set 29 = .ok (.getfield 16, 3) := by decide +kernel
theorem dX6_set_32 : decode cX6_set 32 = .ok (.bipush 12, 2) := by decide +kernel
theorem dX6_set_34 : decode cX6_set 34 = .ok (.iload_n 2, 1) := by decide +kernel
theorem dX6_set_35 : decode cX6_set 35 = .ok (.ifCond .ge 7, 3) := by decide +kernel
theorem dX6_set_38 : decode cX6_set 38 = .ok (.iconst 1, 1) := by decide +kernel
theorem dX6_set_39 : decode cX6_set 39 = .ok (.goto 4, 3) := by decide +kernel
theorem dX6_set_42 : decode cX6_set 42 = .ok (.iconst 0, 1) := by decide +kernel
theorem dX6_set_43 : decode cX6_set 43 = .ok (.bastore, 1) := by decide +kernel
theorem dX6_set_44 : decode cX6_set 44 = .ok (.aload_n 0, 1) := by decide +kernel
theorem dX6_set_45 : decode cX6_set 45 = .ok (.iload_n 1, 1) := by decide +kernel
theorem dX6_set_46 : decode cX6_set 46 = .ok (.bipush 12, 2) := by decide +kernel
theorem dX6_set_48 : decode cX6_set 48 = .ok (.invokevirtual 69, 3) := by decide +kernel
theorem dX6_set_51 : decode cX6_set 51 = .ok (.ireturn, 1) := by decide +kernel
set_option maxRecDepth 20000 in
theorem ggX6_push_X6_is : GoodIn wsX6_push wsX6_is := goodIn_r _ [8, 9, 46, 47, 48, 49, 50, 51, 52, 53, 54] rfl (by decide +kernel)
set_option maxRecDepth 20000 in
theorem gX6_push_X6_is : GoodIn wsX6_push (wsV RX6 61 RX6 yX6_is wsX6_is) := goodIn_app (goodIn_of _ (by decide +kernel)) ggX6_push_X6_is
set_option maxRecDepth 20000 in
theorem ggX6_push_X6_small : GoodIn wsX6_push wsX6_small := goodIn_r _ [13, 14, 3, 2, 15, 16, 17, 7, 18, 19, 46, 47, 48, 49, 50, 51, 52, 53, 54] rfl (by decide +kernel)
set_option maxRecDepth 20000 in
theorem gX6_push_X6_small : GoodIn wsX6_push (wsV RX6 65 RX6 yX6_small wsX6_small) := goodIn_app (goodIn_of _ (by decide +kernel)) ggX6_push_X6_small
set_option maxRecDepth 20000 in
theorem ggX6_push_X6_shiftUp : GoodIn wsX6_push wsX6_shiftUp := goodIn_r _ [23, 3, 24, 25, 26, 27, 7, 28, 19, 15, 16, 17, 18, 29, 30, 31, 32, 2, 46, 47, 48, 49, 50, 51, 52, 53, 54] rfl (by decide +kernel)
set_option maxRecDepth 20000 in
theorem gX6_push_X6_shiftUp : GoodIn wsX6_push (wsV RX6 55 RX6 yX6_shiftUp wsX6_shiftUp) := goodIn_app (goodIn_of _ (by decide +kernel)) ggX6_push_X6_shiftUp
set_option maxRecDepth 20000 in
theorem ggX6_push_X6_plus : GoodIn wsX6_push wsX6_plus := goodIn_r _ [36, 3, 24, 25, 26, 27, 7, 28, 19, 15, 16, 17, 18, 29, 30, 31, 32, 2, 46, 47, 48, 49, 50, 51, 52, 53, 54] rfl (by decide +kernel)
set_option maxRecDepth 20000 in
theorem gX6_push_X6_plus : GoodIn wsX6_push (wsV RX6 74 RX6 yX6_plus wsX6_plus) := goodIn_app (goodIn_of _ (by decide +kernel)) ggX6_push_X6_plus
set_option maxRecDepth 20000 in
theorem ggX6_push_X6_keep : GoodIn wsX6_push wsX6_keep := goodIn_r _ [40, 3, 41, 42, 43, 44, 7, 45, 19, 2, 46, 47, 48, 49, 50, 51, 52, 53, 54] rfl (by decide +kernel)
set_option maxRecDepth 20000 in
theorem gX6_push_X6_keep : GoodIn wsX6_push (wsV RX6 69 RX6 yX6_keep wsX6_keep) := goodIn_app (goodIn_of _ (by decide +kernel)) ggX6_push_X6_keep
theorem dX6_push_0 : decode cX6_push 0 = .ok (.aload_n 0, 1) := by decide +kernel
theorem dX6_push_1 : decode cX6_push 1 = .ok (.iload_n 1, 1) := by decide +kernel
theorem dX6_push_2 : decode cX6_push 2 = .ok (.invokevirtual 61, 3) := by decide +kernel
theorem dX6_push_5 : decode cX6_push 5 = .ok (.ifCond .ne 5, 3) := by decide +kernel
theorem dX6_push_8 : decode cX6_push 8 = .ok (.iconst (-1), 1) := by decide +kernel
theorem dX6_push_9 : decode cX6_push 9 = .ok (.ireturn, 1) := by decide +kernel
theorem dX6_push_10 : decode cX6_push 10 = .ok (.aload_n 0, 1) := by decide +kernel
theorem dX6_push_11 : decode cX6_push 11 = .ok (.bipush 13, 2) := by decide +kernel
theorem dX6_push_13 : decode cX6_push 13 = .ok (.iload_n 2, 1) := by decide +kernel
theorem dX6_push_14 : decode cX6_push 14 = .ok (.i2l, 1) := by decide +kernel
theorem dX6_push_15 : decode cX6_push 15 = .ok (.ldc2_w 72, 3) := by decide +kernel
theorem dX6_push_18 : decode cX6_push 18 = .ok (.land, 1) := by decide +kernel
theorem dX6_push_19 : decode cX6_push 19 = .ok (.invokevirtual 65, 3) := by decide +kernel
theorem dX6_push_22 : decode cX6_push 22 = .ok (.aload_n 0, 1) := by decide +kernel
theorem dX6_push_23 : decode cX6_push 23 = .ok (.bipush 12, 2) := by decide +kernel
theorem dX6_push_25 : decode cX6_push 25 = .ok (.iload_n 1, 1) := by decide +kernel
theorem dX6_push_26 : decode cX6_push 26 = .ok (.bipush 32, 2) := by decide +kernel
theorem dX6_push_28 : decode cX6_push 28 = .ok (.invokevirtual 55, 3) := by decide +kernel
theorem dX6_push_31 : decode cX6_push 31 = .ok (.aload_n 0, 1) := by decide +kernel
theorem dX6_push_32 : decode cX6_push 32 = .ok (.bipush 14, 2) := by decide +kernel
theorem dX6_push_34 : decode cX6_push 34 = .ok (.bipush 12, 2) := by decide +kernel
theorem dX6_push_36 : decode cX6_push 36 = .ok (.bipush 13, 2) := by decide +kernel
theorem dX6_push_38 : decode cX6_push 38 = .ok (.invokevirtual 74, 3) := by decide +kernel
theorem dX6_push_41 : decode cX6_push 41 = .ok (.aload_n 0, 1) := by decide +kernel
theorem dX6_push_42 : decode cX6_push 42 = .ok (.getfield 16, 3) := by decide +kernel
theorem dX6_push_45 : decode cX6_push 45 = .ok (.bipush 14, 2) := by decide +kernel
theorem dX6_push_47 : decode cX6_push 47 = .ok (.aload_n 0, 1) := by decide +kernel
theorem dX6_push_48 : decode cX6_push 48 = .ok (.getfield 16, 3) := by decide +kernel
theorem dX6_push_51 : decode cX6_push 51 = .ok (.iload_n 1, 1) := by decide +kernel
theorem dX6_push_52 : decode cX6_push 52 = .ok (.baload, 1) := by decide +kernel
theorem dX6_push_53 : decode cX6_push 53 = .ok (.ifCond .eq 17, 3) := by decide +kernel
theorem dX6_push_56 : decode cX6_push 56 = .ok (.aload_n 0, 1) := by decide +kernel
theorem dX6_push_57 : decode cX6_push 57 = .ok (.getfield 13, 3) := by decide +kernel
theorem dX6_push_60 : decode cX6_push 60 = .ok (.bipush 14, 2) := by decide +kernel
theorem dX6_push_62 : decode cX6_push 62 = .ok (.iaload, 1) := by decide +kernel
theorem dX6_push_63 : decode cX6_push 63 = .ok (.ifCond .le 7, 3) := by decide +kernel
theorem dX6_push_66 : decode cX6_push 66 = .ok (.iconst 1, 1) := by decide +kernel
theorem dX6_push_67 : decode cX6_push 67 = .ok (.goto 4, 3) := by decide +kernel
theorem dX6_push_70 : decode cX6_push 70 = .ok (.iconst 0, 1) := by decide +kernel
theorem dX6_push_71 : decode cX6_push 71 = .ok (.bastore, 1) := by decide +kernel
theorem dX6_push_72 : decode cX6_push 72 = .ok (.aload_n 0, 1) := by decide +kernel
theorem dX6_push_73 : decode cX6_push 73 = .ok (.iload_n 1, 1) := by decide +kernel
theorem dX6_push_74 : decode cX6_push 74 = .ok (.bipush 14, 2) := by decide +kernel
theorem dX6_push_76 : decode cX6_push 76 = .ok (.invokevirtual 69, 3) := by decide +kernel
theorem dX6_push_79 : decode cX6_push 79 = .ok (.ireturn, 1) := by decide +kernel
set_option maxRecDepth 20000 in
theorem ggX6_copy_X6_is : GoodIn wsX6_copy wsX6_is := goodIn_r _ [5, 6, 19, 20, 21, 22, 23, 24, 25, 26, 27] rfl (by decide +kernel)
set_option maxRecDepth 20000 in
theorem gX6_copy_X6_is : GoodIn wsX6_copy (wsV RX6 61 RX6 yX6_is wsX6_is) := goodIn_app (goodIn_of _ (by decide +kernel)) ggX6_copy_X6_is
set_option maxRecDepth 20000 in
theorem ggX6_copy_X6_move : GoodIn wsX6_copy wsX6_move := goodIn_r _ [10, 11, 12, 13, 19, 20, 21, 22, 23, 24, 25, 26, 27] rfl (by decide +kernel)
set_option maxRecDepth 20000 in
theorem gX6_copy_X6_move : GoodIn wsX6_copy (wsV RX6 51 RX6 yX6_move wsX6_move) := goodIn_app (goodIn_of _ (by decide +kernel)) ggX6_copy_X6_move
set_option maxRecDepth 20000 in
theorem ggX6_copy_X6_keep : GoodIn wsX6_copy wsX6_keep := goodIn_r _ [17, 11, 18, 7, 8, 9, 4, 10, 12, 13, 19, 20, 21, 22, 23, 24, 25, 26, 27] rfl (by decide +kernel)
set_option maxRecDepth 20000 in
theorem gX6_copy_X6_keep : GoodIn wsX6_copy (wsV RX6 69 RX6 yX6_keep wsX6_keep) := goodIn_app (goodIn_of _ (by decide +kernel)) ggX6_copy_X6_keep
theorem dX6_copy_0 : decode cX6_copy 0 = .ok (.aload_n 0, 1) := by decide +kernel
theorem dX6_copy_1 : decode cX6_copy 1 = .ok (.iload_n 1, 1) := by decide +kernel
theorem dX6_copy_2 : decode cX6_copy 2 = .ok (.invokevirtual 61, 3) := by decide +kernel
theorem dX6_copy_5 : decode cX6_copy 5 = .ok (.ifCond .eq 11, 3) := by decide +kernel
theorem dX6_copy_8 : decode cX6_copy 8 = .ok (.aload_n 0, 1) := by decide +kernel
theorem dX6_copy_9 : decode cX6_copy 9 = .ok (.iload_n 2, 1) := by decide +kernel
theorem dX6_copy_10 : decode cX6_copy 10 = .ok (.invokevirtual 61, 3) := by decide +kernel
theorem dX6_copy_13 : decode cX6_copy 13 = .ok (.ifCond .ne 5, 3) := by decide +kernel
theorem dX6_copy_16 : decode cX6_copy 16 = .ok (.iconst (-1), 1) := by decide +kernel
theorem dX6_copy_17 : decode cX6_copy 17 = .ok (.ireturn, 1) := by decide +kernel
theorem dX6_copy_18 : decode cX6_copy 18 = .ok (.aload_n 0, 1) := by decide +kernel
theorem dX6_copy_19 : decode cX6_copy 19 = .ok (.bipush 12, 2) := by decide +kernel
theorem dX6_copy_21 : decode cX6_copy 21 = .ok (.iload_n 2, 1) := by decide +kernel
theorem dX6_copy_22 : decode cX6_copy 22 = .ok (.invokevirtual 51, 3) := by decide +kernel
theorem dX6_copy_25 : decode cX6_copy 25 = .ok (.aload_n 0, 1) := by decide +kernel
theorem dX6_copy_26 : decode cX6_copy 26 = .ok (.iload_n 1, 1) := by decide +kernel
theorem dX6_copy_27 : decode cX6_copy 27 = .ok (.bipush 12, 2) := by decide +kernel
theorem dX6_copy_29 : decode cX6_copy 29 = .ok (.invokevirtual 69, 3) := by decide +kernel
theorem dX6_copy_32 : decode cX6_copy 32 = .ok (.ireturn, 1) := by decide +kernel
set_option maxRecDepth 20000 in
theorem ggX6_neg_X6_is : GoodIn wsX6_neg wsX6_is := goodIn_r _ [7, 8, 9, 10, 11, 12, 13, 14, 15, 16, 17] rfl (by decide +kernel)
set_option maxRecDepth 20000 in
theorem gX6_neg_X6_is : GoodIn wsX6_neg (wsV RX6 61 RX6 yX6_is wsX6_is) := goodIn_app (goodIn_of _ (by decide +kernel)) ggX6_neg_X6_is
theorem dX6_neg_0 : decode cX6_neg 0 = .ok (.aload_n 0, 1) := by decide +kernel
theorem dX6_neg_1 : decode cX6_neg 1 = .ok (.iload_n 1, 1) := by decide +kernel
theorem dX6_neg_2 : decode cX6_neg 2 = .ok (.invokevirtual 61, 3) := by decide +kernel
theorem dX6_neg_5 : decode cX6_neg 5 = .ok (.ifCond .ne 5, 3) := by decide +kernel
theorem dX6_neg_8 : decode cX6_neg 8 = .ok (.iconst (-1), 1) := by decide +kernel
theorem dX6_neg_9 : decode cX6_neg 9 = .ok (.ireturn, 1) := by decide +kernel
theorem dX6_neg_10 : decode cX6_neg 10 = .ok (.aload_n 0, 1) := by decide +kernel
theorem dX6_neg_11 : decode cX6_neg 11 = .ok (.getfield 16, 3) := by decide +kernel
theorem dX6_neg_14 : decode cX6_neg 14 = .ok (.iload_n 1, 1) := by decide +kernel
theorem dX6_neg_15 : decode cX6_neg 15 = .ok (.aload_n 0, 1) := by decide +kernel
theorem dX6_neg_16 : decode cX6_neg 16 = .ok (.getfield 16, 3) := by decide +kernel
theorem dX6_neg_19 : decode cX6_neg 19 = .ok (.iload_n 1, 1) := by decide +kernel
theorem dX6_neg_20 : decode cX6_neg 20 = .ok (.baload, 1) := by decide +kernel
theorem dX6_neg_21 : decode cX6_neg 21 = .ok (.ifCond .ne 16, 3) := by decide +kernel
theorem dX6_neg_24 : decode cX6_neg 24 = .ok (.aload_n 0, 1) := by decide +kernel
theorem dX6_neg_25 : decode cX6_neg 25 = .ok (.getfield 13, 3) := by decide +kernel
theorem dX6_neg_28 : decode cX6_neg 28 = .ok (.iload_n 1, 1) := by decide +kernel
theorem dX6_neg_29 : decode cX6_neg 29 = .ok (.iaload, 1) := by decide +kernel
theorem dX6_neg_30 : decode cX6_neg 30 = .ok (.ifCond .le 7, 3) := by decide +kernel
theorem dX6_neg_33 : decode cX6_neg 33 = .ok (.iconst 1, 1) := by decide +kernel
theorem dX6_neg_34 : decode cX6_neg 34 = .ok (.goto 4, 3) := by decide +kernel
theorem dX6_neg_37 : decode cX6_neg 37 = .ok (.iconst 0, 1) := by decide +kernel
theorem dX6_neg_38 : decode cX6_neg 38 = .ok (.bastore, 1) := by decide +kernel
theorem dX6_neg_39 : decode cX6_neg 39 = .ok (.iconst 0, 1) := by decide +kernel
theorem dX6_neg_40 : decode cX6_neg 40 = .ok (.ireturn, 1) := by decide +kernel
set_option maxRecDepth 20000 in
theorem ggX6_sum_X6_plus : GoodIn wsX6_sum wsX6_plus := goodIn_r _ [7, 2, 8, 9, 10, 11, 6, 12, 13, 14, 15, 16, 17, 18, 19, 20, 21, 1, 30, 31, 32, 33, 34, 35, 36, 37, 38] rfl (by decide +kernel)
set_option maxRecDepth 20000 in
theorem gX6_sum_X6_plus : GoodIn wsX6_sum (wsV RX6 74 RX6 yX6_plus wsX6_plus) := goodIn_app (goodIn_of _ (by decide +kernel)) ggX6_sum_X6_plus
set_option maxRecDepth 20000 in
theorem ggX6_sum_X6_order : GoodIn wsX6_sum wsX6_order := goodIn_r _ [25, 2, 9, 10, 11, 6, 12, 13, 30, 31, 32, 33, 34, 35, 36, 37, 38] rfl (by decide +kernel)
set_option maxRecDepth 20000 in
theorem gX6_sum_X6_order : GoodIn wsX6_sum (wsV RX6 48 RX6 yX6_order wsX6_order) := goodIn_app (goodIn_of _ (by decide +kernel)) ggX6_sum_X6_order
set_option maxRecDepth 20000 in
theorem ggX6_sum_X6_minus : GoodIn wsX6_sum wsX6_minus := goodIn_r _ [29, 2, 8, 9, 10, 11, 6, 12, 13, 14, 15, 16, 17, 18, 19, 20, 21, 1, 30, 31, 32, 33, 34, 35, 36, 37, 38] rfl (by decide +kernel)
set_option maxRecDepth 20000 in
theorem gX6_sum_X6_minus : GoodIn wsX6_sum (wsV RX6 77 RX6 yX6_minus wsX6_minus) := goodIn_app (goodIn_of _ (by decide +kernel)) ggX6_sum_X6_minus
theorem dX6_sum_0 : decode cX6_sum 0 = .ok (.aload_n 0, 1) := by decide +kernel
theorem dX6_sum_1 : decode cX6_sum 1 = .ok (.getfield 16, 3) := by decide +kernel
theorem dX6_sum_4 : decode cX6_sum 4 = .ok (.iload_n 2, 1) := by decide +kernel
theorem dX6_sum_5 : decode cX6_sum 5 = .ok (.baload, 1) := by decide +kernel
theorem dX6_sum_6 : decode cX6_sum 6 = .ok (.iload_n 3, 1) := by decide +kernel
theorem dX6_sum_7 : decode cX6_sum 7 = .ok (.if_icmp .eq 7, 3) := by decide +kernel
theorem dX6_sum_10 : decode cX6_sum 10 = .ok (.iconst 1, 1) := by decide +kernel
theorem dX6_sum_11 : decode cX6_sum 11 = .ok (.goto 4, 3) := by decide +kernel
theorem dX6_sum_14 : decode cX6_sum 14 = .ok (.iconst 0, 1) := by decide +kernel
theorem dX6_sum_15 : decode cX6_sum 15 = .ok (.istore 4, 2) := by decide +kernel
theorem dX6_sum_17 : decode cX6_sum 17 = .ok (.aload_n 0, 1) := by decide +kernel
theorem dX6_sum_18 : decode cX6_sum 18 = .ok (.getfield 16, 3) := by decide +kernel
theorem dX6_sum_21 : decode cX6_sum 21 = .ok (.iload_n 1, 1) := by decide +kernel
theorem dX6_sum_22 : decode cX6_sum 22 = .ok (.baload, 1) := by decide +kernel
theorem dX6_sum_23 : decode cX6_sum 23 = .ok (.iload 4, 2) := by decide +kernel
theorem dX6_sum_25 : decode cX6_sum 25 = .ok (.if_icmp .ne 41, 3) := by decide +kernel
theorem dX6_sum_28 : decode cX6_sum 28 = .ok (.aload_n 0, 1) := by decide +kernel
theorem dX6_sum_29 : decode cX6_sum 29 = .ok (.bipush 14, 2) := by decide +kernel
theorem dX6_sum_31 : decode cX6_sum 31 = .ok (.iload_n 1, 1) := by decide +kernel
theorem dX6_sum_32 : decode cX6_sum 32 = .ok (.iload_n 2, 1) := by decide +kernel
theorem dX6_sum_33 : decode cX6_sum 33 = .ok (.invokevirtual 74, 3) := by decide +kernel
theorem dX6_sum_36 : decode cX6_sum 36 = .ok (.aload_n 0, 1) := by decide +kernel
theorem dX6_sum_37 : decode cX6_sum 37 = .ok (.getfield 16, 3) := by decide +kernel
theorem dX6_sum_40 : decode cX6_sum 40 = .ok (.bipush 14, 2) := by decide +kernel
theorem dX6_sum_42 : decode cX6_sum 42 = .ok (.iload 4, 2) := by decide +kernel
theorem dX6_sum_44 : decode cX6_sum 44 = .ok (.ifCond .eq 17, 3) := by decide +kernel
theorem dX6_sum_47 : decode cX6_sum 47 = .ok (.aload_n 0, 1) := by decide +kernel
theorem dX6_sum_48 : decode cX6_sum 48 = .ok (.getfield 13, 3) := by decide +kernel
theorem dX6_sum_51 : decode cX6_sum 51 = .ok (.bipush 14, 2) := by decide +kernel
theorem dX6_sum_53 : decode cX6_sum 53 = .ok (.iaload, 1) := by decide +kernel
theorem dX6_sum_54 : decode cX6_sum 54 = .ok (.ifCond .le 7, 3) := by decide +kernel
theorem dX6_sum_57 : decode cX6_sum 57 = .ok (.iconst 1, 1) := by decide +kernel
theorem dX6_sum_58 : decode cX6_sum 58 = .ok (.goto 4, 3) := by decide +kernel
theorem dX6_sum_61 : decode cX6_sum 61 = .ok (.iconst 0, 1) := by decide +kernel
theorem dX6_sum_62 : decode cX6_sum 62 = .ok (.bastore, 1) := by decide +kernel
theorem dX6_sum_63 : decode cX6_sum 63 = .ok (.goto 89, 3) := by decide +kernel
theorem dX6_sum_66 : decode cX6_sum 66 = .ok (.aload_n 0, 1) := by decide +kernel
theorem dX6_sum_67 : decode cX6_sum 67 = .ok (.iload_n 1, 1) := by decide +kernel
theorem dX6_sum_68 : decode cX6_sum 68 = .ok (.iload_n 2, 1) := by decide +kernel
theorem dX6_sum_69 : decode cX6_sum 69 = .ok (.invokevirtual 48, 3) := by decide +kernel
theorem dX6_sum_72 : decode cX6_sum 72 = .ok (.ifCond .lt 45, 3) := by decide +kernel
theorem dX6_sum_75 : decode cX6_sum 75 = .ok (.aload_n 0, 1) := by decide +kernel
theorem dX6_sum_76 : decode cX6_sum 76 = .ok (.bipush 14, 2) := by decide +kernel
theorem dX6_sum_78 : decode cX6_sum 78 = .ok (.iload_n 1, 1) := by decide +kernel
theorem dX6_sum_79 : decode cX6_sum 79 = .ok (.iload_n 2, 1) := by decide +kernel
theorem dX6_sum_80 : decode cX6_sum 80 = .ok (.invokevirtual 77, 3) := by decide +kernel
theorem dX6_sum_83 : decode cX6_sum 83 = .ok (.aload_n 0, 1) := by decide +kernel
theorem dX6_sum_84 : decode cX6_sum 84 = .ok (.getfield 16, 3) := by decide +kernel
theorem dX6_sum_87 : decode cX6_sum 87 = .ok (.bipush 14, 2) := by decide +kernel
theorem dX6_sum_89 : decode cX6_sum 89 = .ok (.aload_n 0, 1) := by decide +kernel
theorem dX6_sum_90 : decode cX6_sum 90 = .ok (.getfield 16, 3) := by decide +kernel
theorem dX6_sum_93 : decode cX6_sum 93 = .ok (.iload_n 1, 1) := by decide +kernel
theorem dX6_sum_94 : decode cX6_sum 94 = .ok (.baload, 1) := by decide +kernel
theorem dX6_sum_95 : decode cX6_sum 95 = .ok (.ifCond .eq 17, 3) := by decide +kernel
theorem dX6_sum_98 : decode cX6_sum 98 = .ok (.aload_n 0, 1) := by decide +kernel
theorem dX6_sum_99 : decode cX6_sum 99 = .ok (.getfield 13, 3) := by decide +kernel
theorem dX6_sum_102 : decode cX6_sum 102 = .ok (.bipush 14, 2) := by decide +kernel
theorem dX6_sum_104 : decode cX6_sum 104 = .ok (.iaload, 1) := by decide +kernel
theorem dX6_sum_105 : decode cX6_sum 105 = .ok (.ifCond .le 7, 3) := by decide +kernel
theorem dX6_sum_108 : decode cX6_sum 108 = .ok (.iconst 1, 1) := by decide +kernel
theorem dX6_sum_109 : decode cX6_sum 109 = .ok (.goto 4, 3) := by decide +kernel
theorem dX6_sum_112 : decode cX6_sum 112 = .ok (.iconst 0, 1) := by decide +kernel
theorem dX6_sum_113 : decode cX6_sum 113 = .ok (.bastore, 1) := by decide +kernel
theorem dX6_sum_114 : decode cX6_sum 114 = .ok (.goto 38, 3) := by decide +kernel
theorem dX6_sum_117 : decode cX6_sum 117 = .ok (.aload_n 0, 1) := by decide +kernel
theorem dX6_sum_118 : decode cX6_sum 118 = .ok (.bipush 14, 2) := by decide +kernel
theorem dX6_sum_120 : decode cX6_sum 120 = .ok (.iload_n 2, 1) := by decide +kernel
theorem dX6_sum_121 : decode cX6_sum 121 = .ok (.iload_n 1, 1) := by decide +kernel
theorem dX6_sum_122 : decode cX6_sum 122 = .ok (.invokevirtual 77, 3) := by decide +kernel
theorem dX6_sum_125 : decode cX6_sum 125 = .ok (.aload_n 0, 1) := by decide +kernel
theorem dX6_sum_126 : decode cX6_sum 126 = .ok (.getfield 16, 3) := by decide +kernel
theorem dX6_sum_129 : decode cX6_sum 129 = .ok (.bipush 14, 2) := by decide +kernel
theorem dX6_sum_131 : decode cX6_sum 131 = .ok (.iload 4, 2) := by decide +kernel
theorem dX6_sum_133 : decode cX6_sum 133 = .ok (.ifCond .eq 17, 3) := by decide +kernel
theorem dX6_sum_136 : decode cX6_sum 136 = .ok (.aload_n 0, 1) := by decide +kernel
theorem dX6_sum_137 : decode cX6_sum 137 = .ok (.getfield 13, 3) := by decide +kernel
theorem dX6_sum_140 : decode cX6_sum 140 = .ok (.bipush 14, 2) := by decide +kernel
theorem dX6_sum_142 : decode cX6_sum 142 = .ok (.iaload, 1) := by decide +kernel
theorem dX6_sum_143 : decode cX6_sum 143 = .ok (.ifCond .le 7, 3) := by decide +kernel
theorem dX6_sum_146 : decode cX6_sum 146 = .ok (.iconst 1, 1) := by decide +kernel
theorem dX6_sum_147 : decode cX6_sum 147 = .ok (.goto 4, 3) := by decide +kernel
theorem dX6_sum_150 : decode cX6_sum 150 = .ok (.iconst 0, 1) := by decide +kernel
theorem dX6_sum_151 : decode cX6_sum 151 = .ok (.bastore, 1) := by decide +kernel
theorem dX6_sum_152 : decode cX6_sum 152 = .ok (.return_, 1) := by decide +kernel
set_option maxRecDepth 20000 in
theorem ggX6_add_X6_is : GoodIn wsX6_add wsX6_is := goodIn_r _ [5, 6, 48, 49, 50, 51, 52, 53, 54, 55, 56] rfl (by decide +kernel)
set_option maxRecDepth 20000 in
theorem gX6_add_X6_is : GoodIn wsX6_add (wsV RX6 61 RX6 yX6_is wsX6_is) := goodIn_app (goodIn_of _ (by decide +kernel)) ggX6_add_X6_is
set_option maxRecDepth 20000 in
theorem ggX6_add_X6_sum : GoodIn wsX6_add wsX6_sum := goodIn_r _ [10, 11, 12, 13, 14, 15, 4, 16, 17, 18, 19, 20, 21, 22, 23, 24, 25, 26, 27, 28, 29, 30, 31, 32, 33, 34, 35, 36, 37, 38, 48, 49, 50, 51, 52, 53, 54, 55, 56] rfl (by decide +kernel)
set_option maxRecDepth 20000 in
theorem gX6_add_X6_sum : GoodIn wsX6_add (wsV RX6 80 RX6 yX6_sum wsX6_sum) := goodIn_app (goodIn_of _ (by decide +kernel)) ggX6_add_X6_sum
set_option maxRecDepth 20000 in
theorem ggX6_add_X6_keep : GoodIn wsX6_add wsX6_keep := goodIn_r _ [42, 12, 43, 44, 45, 46, 4, 47, 22, 11, 48, 49, 50, 51, 52, 53, 54, 55, 56] rfl (by decide +kernel)
set_option maxRecDepth 20000 in
theorem gX6_add_X6_keep : GoodIn wsX6_add (wsV RX6 69 RX6 yX6_keep wsX6_keep) := goodIn_app (goodIn_of _ (by decide +kernel)) ggX6_add_X6_keep
theorem dX6_add_0 : decode cX6_add 0 = .ok (.aload_n 0, 1) := by decide +kernel
theorem dX6_add_1 : decode cX6_add 1 = .ok (.iload_n 1, 1) := by decide +kernel
theorem dX6_add_2 : decode cX6_add 2 = .ok (.invokevirtual 61, 3) := by decide +kernel
theorem dX6_add_5 : decode cX6_add 5 = .ok (.ifCond .eq 19, 3) := by decide +kernel
theorem dX6_add_8 : decode cX6_add 8 = .ok (.aload_n 0, 1) := by decide +kernel
theorem dX6_add_9 : decode cX6_add 9 = .ok (.iload_n 2, 1) := by decide +kernel
theorem dX6_add_10 : decode cX6_add 10 = .ok (.invokevirtual 61, 3) := by decide +kernel
theorem dX6_add_13 : decode cX6_add 13 = .ok (.ifCond .eq 11, 3) := by decide +kernel
theorem dX6_add_16 : decode cX6_add 16 = .ok (.aload_n 0, 1) := by decide +kernel
theorem dX6_add_17 : decode cX6_add 17 = .ok (.iload_n 3, 1) := by decide +kernel
theorem dX6_add_18 : decode cX6_add 18 = .ok (.invokevirtual 61, 3) := by decide +kernel
theorem dX6_add_21 : decode cX6_add 21 = .ok (.ifCond .ne 5, 3) := by decide +kernel
theorem dX6_add_24 : decode cX6_add 24 = .ok (.iconst (-1), 1) := by decide +kernel
theorem dX6_add_25 : decode cX6_add 25 = .ok (.ireturn, 1) := by decide +kernel
theorem dX6_add_26 : decode cX6_add 26 = .ok (.aload_n 0, 1) := by decide +kernel
theorem dX6_add_27 : decode cX6_add 27 = .ok (.iload_n 2, 1) := by decide +kernel
theorem dX6_add_28 : decode cX6_add 28 = .ok (.iload_n 3, 1) := by decide +kernel
theorem dX6_add_29 : decode cX6_add 29 = .ok (.iconst 0, 1) := by decide +kernel
theorem dX6_add_30 : decode cX6_add 30 = .ok (.invokevirtual 80, 3) := by decide +kernel
theorem dX6_add_33 : decode cX6_add 33 = .ok (.aload_n 0, 1) := by decide +kernel
theorem dX6_add_34 : decode cX6_add 34 = .ok (.iload_n 1, 1) := by decide +kernel
theorem dX6_add_35 : decode cX6_add 35 = .ok (.bipush 14, 2) := by decide +kernel
theorem dX6_add_37 : decode cX6_add 37 = .ok (.invokevirtual 69, 3) := by decide +kernel
theorem dX6_add_40 : decode cX6_add 40 = .ok (.ireturn, 1) := by decide +kernel
set_option maxRecDepth 20000 in
theorem ggX6_sub_X6_is : GoodIn wsX6_sub wsX6_is := goodIn_r _ [5, 6, 48, 49, 50, 51, 52, 53, 54, 55, 56] rfl (by decide +kernel)
set_option maxRecDepth 20000 in
theorem gX6_sub_X6_is : GoodIn wsX6_sub (wsV RX6 61 RX6 yX6_is wsX6_is) := goodIn_app (goodIn_of _ (by decide +kernel)) ggX6_sub_X6_is
set_option maxRecDepth 20000 in
theorem ggX6_sub_X6_sum : GoodIn wsX6_sub wsX6_sum := goodIn_r _ [10, 11, 12, 13, 14, 15, 4, 16, 17, 18, 19, 20, 21, 22, 23, 24, 25, 26, 27, 28, 29, 30, 31, 32, 33, 34, 35, 36, 37, 38, 48, 49, 50, 51, 52, 53, 54, 55, 56] rfl (by decide +kernel)
set_option maxRecDepth 20000 in
theorem gX6_sub_X6_sum : GoodIn wsX6_sub (wsV RX6 80 RX6 yX6_sum wsX6_sum) := goodIn_app (goodIn_of _ (by decide +kernel)) ggX6_sub_X6_sum
set_option maxRecDepth 20000 in
theorem ggX6_sub_X6_keep : GoodIn wsX6_sub wsX6_keep := goodIn_r _ [42, 12, 43, 44, 45, 46, 4, 47, 22, 11, 48, 49, 50, 51, 52, 53, 54, 55, 56] rfl (by decide +kernel)
set_option maxRecDepth 20000 in
theorem gX6_sub_X6_keep : GoodIn wsX6_sub (wsV RX6 69 RX6 yX6_keep wsX6_keep) := goodIn_app (goodIn_of _ (by decide +kernel)) ggX6_sub_X6_keep
theorem dX6_sub_0 : decode cX6_sub 0 = .ok (.aload_n 0, 1) := by decide +kernel
theorem dX6_sub_1 : decode cX6_sub 1 = .ok (.iload_n 1, 1) := by decide +kernel
theorem dX6_sub_2 : decode cX6_sub 2 = .ok (.invokevirtual 61, 3) := by decide +kernel
theorem dX6_sub_5 : decode cX6_sub 5 = .ok (.ifCond .eq 19, 3) := by decide +kernel
theorem dX6_sub_8 : decode cX6_sub 8 = .ok (.aload_n 0, 1) := by decide +kernel
theorem dX6_sub_9 : decode cX6_sub 9 = .ok (.iload_n 2, 1) := by decide +kernel
theorem dX6_sub_10 : decode cX6_sub 10 = .ok (.invokevirtual 61, 3) := by decide +kernel
theorem dX6_sub_13 : decode cX6_sub 13 = .ok (.ifCond .eq 11, 3) := by decide +kernel
theorem dX6_sub_16 : decode cX6_sub 16 = .ok (.aload_n 0, 1) := by decide +kernel
theorem dX6_sub_17 : decode cX6_sub 17 = .ok (.iload_n 3, 1) := by decide +kernel
theorem dX6_sub_18 : decode cX6_sub 18 = .ok (.invokevirtual 61, 3) := by decide +kernel
theorem dX6_sub_21 : decode cX6_sub 21 = .ok (.ifCond .ne 5, 3) := by decide +kernel
theorem dX6_sub_24 : decode cX6_sub 24 = .ok (.iconst (-1), 1) := by decide +kernel
theorem dX6_sub_25 : decode cX6_sub 25 = .ok (.ireturn, 1) := by decide +kernel
theorem dX6_sub_26 : decode cX6_sub 26 = .ok (.aload_n 0, 1) := by decide +kernel
theorem dX6_sub_27 : decode cX6_sub 27 = .ok (.iload_n 2, 1) := by decide +kernel
theorem dX6_sub_28 : decode cX6_sub 28 = .ok (.iload_n 3, 1) := by decide +kernel
theorem dX6_sub_29 : decode cX6_sub 29 = .ok (.iconst 1, 1) := by decide +kernel
theorem dX6_sub_30 : decode cX6_sub 30 = .ok (.invokevirtual 80, 3) := by decide +kernel
theorem dX6_sub_33 : decode cX6_sub 33 = .ok (.aload_n 0, 1) := by decide +kernel
theorem dX6_sub_34 : decode cX6_sub 34 = .ok (.iload_n 1, 1) := by decide +kernel
theorem dX6_sub_35 : decode cX6_sub 35 = .ok (.bipush 14, 2) := by decide +kernel
theorem dX6_sub_37 : decode cX6_sub 37 = .ok (.invokevirtual 69, 3) := by decide +kernel
theorem dX6_sub_40 : decode cX6_sub 40 = .ok (.ireturn, 1) := by decide +kernel
set_option maxRecDepth 20000 in
theorem ggX6_mul_X6_is : GoodIn wsX6_mul wsX6_is := goodIn_r _ [7, 8, 36, 37, 38, 39, 40, 41, 42, 43, 44] rfl (by decide +kernel)
set_option maxRecDepth 20000 in
theorem gX6_mul_X6_is : GoodIn wsX6_mul (wsV RX6 61 RX6 yX6_is wsX6_is) := goodIn_app (goodIn_of _ (by decide +kernel)) ggX6_mul_X6_is
set_option maxRecDepth 20000 in
theorem ggX6_mul_X6_times : GoodIn wsX6_mul wsX6_times := goodIn_r _ [12, 2, 13, 14, 1, 15, 16, 17, 6, 18, 19, 20, 21, 22, 23, 24, 25, 26, 36, 37, 38, 39, 40, 41, 42, 43, 44] rfl (by decide +kernel)
set_option maxRecDepth 20000 in
theorem gX6_mul_X6_times : GoodIn wsX6_mul (wsV RX6 84 RX6 yX6_times wsX6_times) := goodIn_app (goodIn_of _ (by decide +kernel)) ggX6_mul_X6_times
set_option maxRecDepth 20000 in
theorem ggX6_mul_X6_keep : GoodIn wsX6_mul wsX6_keep := goodIn_r _ [30, 2, 31, 32, 33, 34, 6, 35, 13, 1, 36, 37, 38, 39, 40, 41, 42, 43, 44] rfl (by decide +kernel)
set_option maxRecDepth 20000 in
theorem gX6_mul_X6_keep : GoodIn wsX6_mul (wsV RX6 69 RX6 yX6_keep wsX6_keep) := goodIn_app (goodIn_of _ (by decide +kernel)) ggX6_mul_X6_keep
theorem dX6_mul_0 : decode cX6_mul 0 = .ok (.aload_n 0, 1) := by decide +kernel
theorem dX6_mul_1 : decode cX6_mul 1 = .ok (.iload_n 1, 1) := by decide +kernel
theorem dX6_mul_2 : decode cX6_mul 2 = .ok (.invokevirtual 61, 3) := by decide +kernel
theorem dX6_mul_5 : decode cX6_mul 5 = .ok (.ifCond .eq 19, 3) := by decide +kernel
theorem dX6_mul_8 : decode cX6_mul 8 = .ok (.aload_n 0, 1) := by decide +kernel
theorem dX6_mul_9 : decode cX6_mul 9 = .ok (.iload_n 2, 1) := by decide +kernel
theorem dX6_mul_10 : decode cX6_mul 10 = .ok (.invokevirtual 61, 3) := by decide +kernel
theorem dX6_mul_13 : decode cX6_mul 13 = .ok (.ifCond .eq 11, 3) := by decide +kernel
theorem dX6_mul_16 : decode cX6_mul 16 = .ok (.aload_n 0, 1) := by decide +kernel
theorem dX6_mul_17 : decode cX6_mul 17 = .ok (.iload_n 3, 1) := by decide +kernel
theorem dX6_mul_18 : decode cX6_mul 18 = .ok (.invokevirtual 61, 3) := by decide +kernel
theorem dX6_mul_21 : decode cX6_mul 21 = .ok (.ifCond .ne 5, 3) := by decide +kernel
theorem dX6_mul_24 : decode cX6_mul 24 = .ok (.iconst (-1), 1) := by decide +kernel
theorem dX6_mul_25 : decode cX6_mul 25 = .ok (.ireturn, 1) := by decide +kernel
theorem dX6_mul_26 : decode cX6_mul 26 = .ok (.aload_n 0, 1) := by decide +kernel
theorem dX6_mul_27 : decode cX6_mul 27 = .ok (.bipush 14, 2) := by decide +kernel
theorem dX6_mul_29 : decode cX6_mul 29 = .ok (.iload_n 2, 1) := by decide +kernel
theorem dX6_mul_30 : decode cX6_mul 30 = .ok (.iload_n 3, 1) := by decide +kernel
theorem dX6_mul_31 : decode cX6_mul 31 = .ok (.invokevirtual 84, 3) := by decide +kernel
theorem dX6_mul_34 : decode cX6_mul 34 = .ok (.aload_n 0, 1) := by decide +kernel
theorem dX6_mul_35 : decode cX6_mul 35 = .ok (.getfield 16, 3) := by decide +kernel
theorem dX6_mul_38 : decode cX6_mul 38 = .ok (.bipush 14, 2) := by decide +kernel
theorem dX6_mul_40 : decode cX6_mul 40 = .ok (.aload_n 0, 1) := by decide +kernel
theorem dX6_mul_41 : decode cX6_mul 41 = .ok (.getfield 16, 3) := by decide +kernel
theorem dX6_mul_44 : decode cX6_mul 44 = .ok (.iload_n 2, 1) := by decide +kernel
theorem dX6_mul_45 : decode cX6_mul 45 = .ok (.baload, 1) := by decide +kernel
theorem dX6_mul_46 : decode cX6_mul 46 = .ok (.aload_n 0, 1) := by decide +kernel
theorem dX6_mul_47 : decode cX6_mul 47 = .ok (.getfield 16, 3) := by decide +kernel
theorem dX6_mul_50 : decode cX6_mul 50 = .ok (.iload_n 3, 1) := by decide +kernel
theorem dX6_mul_51 : decode cX6_mul 51 = .ok (.baload, 1) := by decide +kernel
theorem dX6_mul_52 : decode cX6_mul 52 = .ok (.if_icmp .eq 17, 3) := by decide +kernel
theorem dX6_mul_55 : decode cX6_mul 55 = .ok (.aload_n 0, 1) := by decide +kernel
theorem dX6_mul_56 : decode cX6_mul 56 = .ok (.getfield 13, 3) := by decide +kernel
theorem dX6_mul_59 : decode cX6_mul 59 = .ok (.bipush 14, 2) := by decide +kernel
theorem dX6_mul_61 : decode cX6_mul 61 = .ok (.iaload, 1) := by decide +kernel
theorem dX6_mul_62 : decode cX6_mul 62 = .ok (.ifCond .le 7, 3) := by decide +kernel
theorem dX6_mul_65 : decode cX6_mul 65 = .ok (.iconst 1, 1) := by decide +kernel
theorem dX6_mul_66 : decode cX6_mul 66 = .ok (.goto 4, 3) := by decide +kernel
theorem dX6_mul_69 : decode cX6_mul 69 = .ok (.iconst 0, 1) := by decide +kernel
theorem dX6_mul_70 : decode cX6_mul 70 = .ok (.bastore, 1) := by decide +kernel
theorem dX6_mul_71 : decode cX6_mul 71 = .ok (.aload_n 0, 1) := by decide +kernel
theorem dX6_mul_72 : decode cX6_mul 72 = .ok (.iload_n 1, 1) := by decide +kernel
theorem dX6_mul_73 : decode cX6_mul 73 = .ok (.bipush 14, 2) := by decide +kernel
theorem dX6_mul_75 : decode cX6_mul 75 = .ok (.invokevirtual 69, 3) := by decide +kernel
theorem dX6_mul_78 : decode cX6_mul 78 = .ok (.ireturn, 1) := by decide +kernel
set_option maxRecDepth 20000 in
theorem ggX6_divMod_X6_is : GoodIn wsX6_divMod wsX6_is := goodIn_r _ [7, 8, 45, 46, 47, 48, 49, 50, 51, 52, 53] rfl (by decide +kernel)
set_option maxRecDepth 20000 in
theorem gX6_divMod_X6_is : GoodIn wsX6_divMod (wsV RX6 61 RX6 yX6_is wsX6_is) := goodIn_app (goodIn_of _ (by decide +kernel)) ggX6_divMod_X6_is
set_option maxRecDepth 20000 in
theorem ggX6_divMod_X6_divide : GoodIn wsX6_divMod wsX6_divide := goodIn_r _ [12, 2, 1, 13, 14, 15, 16, 17, 18, 19, 6, 20, 21, 22, 23, 24, 25, 26, 27, 28, 29, 30, 31, 32, 33, 34, 35, 36, 37, 38, 39, 40, 41, 42, 43, 44, 45, 46, 47, 48, 49, 50, 51, 52, 53] rfl (by decide +kernel)
set_option maxRecDepth 20000 in
theorem gX6_divMod_X6_divide : GoodIn wsX6_divMod (wsV RX6 87 RX6 yX6_divide wsX6_divide) := goodIn_app (goodIn_of _ (by decide +kernel)) ggX6_divMod_X6_divide
set_option maxRecDepth 20000 in
theorem ggX6_divMod_X6_move : GoodIn wsX6_divMod wsX6_move := goodIn_r _ [28, 1, 14, 2, 45, 46, 47, 48, 49, 50, 51, 52, 53] rfl (by decide +kernel)
set_option maxRecDepth 20000 in
theorem gX6_divMod_X6_move : GoodIn wsX6_divMod (wsV RX6 51 RX6 yX6_move wsX6_move) := goodIn_app (goodIn_of _ (by decide +kernel)) ggX6_divMod_X6_move
theorem dX6_divMod_0 : decode cX6_divMod 0 = .ok (.aload_n 0, 1) := by decide +kernel
theorem dX6_divMod_1 : decode cX6_divMod 1 = .ok (.iload_n 1, 1) := by decide +kernel
theorem dX6_divMod_2 : decode cX6_divMod 2 = .ok (.invokevirtual 61, 3) := by decide +kernel
theorem dX6_divMod_5 : decode cX6_divMod 5 = .ok (.ifCond .eq 28, 3) := by decide +kernel
theorem dX6_divMod_8 : decode cX6_divMod 8 = .ok (.aload_n 0, 1) := by decide +kernel
theorem dX6_divMod_9 : decode cX6_divMod 9 = .ok (.iload_n 2, 1) := by decide +kernel
theorem dX6_divMod_10 : decode cX6_divMod 10 = .ok (.invokevirtual 61, 3) := by decide +kernel
theorem dX6_divMod_13 : decode cX6_divMod 13 = .ok (.ifCond .eq 20, 3) := by decide +kernel
theorem dX6_divMod_16 : decode cX6_divMod 16 = .ok (.aload_n 0, 1) := by decide +kernel
theorem dX6_divMod_17 : decode cX6_divMod 17 = .ok (.iload_n 3, 1) := by decide +kernel
theorem dX6_divMod_18 : decode cX6_divMod 18 = .ok (.invokevirtual 61, 3) := by decide +kernel
theorem dX6_divMod_21 : decode cX6_divMod 21 = .ok (.ifCond .eq 12, 3) := by decide +kernel
theorem dX6_divMod_24 : decode cX6_divMod 24 = .ok (.aload_n 0, 1) := by decide +kernel
theorem dX6_divMod_25 : decode cX6_divMod 25 = .ok (.iload 4, 2) := by decide +kernel
theorem dX6_divMod_27 : decode cX6_divMod 27 = .ok (.invokevirtual 61, 3) := by decide +kernel
theorem dX6_divMod_30 : decode cX6_divMod 30 = .ok (.ifCond .ne 5, 3) := by decide +kernel
theorem dX6_divMod_33 : decode cX6_divMod 33 = .ok (.iconst (-1), 1) := by decide +kernel
theorem dX6_divMod_34 : decode cX6_divMod 34 = .ok (.ireturn, 1) := by decide +kernel
theorem dX6_divMod_35 : decode cX6_divMod 35 = .ok (.aload_n 0, 1) := by decide +kernel
theorem dX6_divMod_36 : decode cX6_divMod 36 = .ok (.getfield 13, 3) := by decide +kernel
theorem dX6_divMod_39 : decode cX6_divMod 39 = .ok (.iload 4, 2) := by decide +kernel
theorem dX6_divMod_41 : decode cX6_divMod 41 = .ok (.iaload, 1) := by decide +kernel
theorem dX6_divMod_42 : decode cX6_divMod 42 = .ok (.ifCond .eq 8, 3) := by decide +kernel
theorem dX6_divMod_45 : decode cX6_divMod 45 = .ok (.iload_n 1, 1) := by decide +kernel
theorem dX6_divMod_46 : decode cX6_divMod 46 = .ok (.iload_n 2, 1) := by decide +kernel
theorem dX6_divMod_47 : decode cX6_divMod 47 = .ok (.if_icmp .ne 6, 3) := by decide +kernel
theorem dX6_divMod_50 : decode cX6_divMod 50 = .ok (.bipush (-2), 2) := by decide +kernel
theorem dX6_divMod_52 : decode cX6_divMod 52 = .ok (.ireturn, 1) := by decide +kernel
theorem dX6_divMod_53 : decode cX6_divMod 53 = .ok (.aload_n 0, 1) := by decide +kernel
theorem dX6_divMod_54 : decode cX6_divMod 54 = .ok (.getfield 16, 3) := by decide +kernel
theorem dX6_divMod_57 : decode cX6_divMod 57 = .ok (.iload_n 3, 1) := by decide +kernel
theorem dX6_divMod_58 : decode cX6_divMod 58 = .ok (.baload, 1) := by decide +kernel
theorem dX6_divMod_59 : decode cX6_divMod 59 = .ok (.istore 5, 2) := by decide +kernel
theorem dX6_divMod_61 : decode cX6_divMod 61 = .ok (.aload_n 0, 1) := by decide +kernel
theorem dX6_divMod_62 : decode cX6_divMod 62 = .ok (.getfield 16, 3) := by decide +kernel
theorem dX6_divMod_65 : decode cX6_divMod 65 = .ok (.iload_n 3, 1) := by decide +kernel
theorem dX6_divMod_66 : decode cX6_divMod 66 = .ok (.baload, 1) := by decide +kernel
theorem dX6_divMod_67 : decode cX6_divMod 67 = .ok (.aload_n 0, 1) := by decide +kernel
theorem dX6_divMod_68 : decode cX6_divMod 68 = .ok (.getfield 16, 3) := by decide +kernel
theorem dX6_divMod_71 : decode cX6_divMod 71 = .ok (.iload 4, 2) := by decide +kernel
theorem dX6_divMod_73 : decode cX6_divMod 73 = .ok (.baload, 1) := by decide +kernel
theorem dX6_divMod_74 : decode cX6_divMod 74 = .ok (.if_icmp .eq 7, 3) := by decide +kernel
theorem dX6_divMod_77 : decode cX6_divMod 77 = .ok (.iconst 1, 1) := by decide +kernel
theorem dX6_divMod_78 : decode cX6_divMod 78 = .ok (.goto 4, 3) := by decide +kernel
theorem dX6_divMod_81 : decode cX6_divMod 81 = .ok (.iconst 0, 1) := by decide +kernel
theorem dX6_divMod_82 : decode cX6_divMod 82 = .ok (.istore 6, 2) := by decide +kernel
theorem dX6_divMod_84 : decode cX6_divMod 84 = .ok (.aload_n 0, 1) := by decide +kernel
theorem dX6_divMod_85 : decode cX6_divMod 85 = .ok (.iload_n 3, 1) := by decide +kernel
theorem dX6_divMod_86 : decode cX6_divMod 86 = .ok (.iload 4, 2) := by decide +kernel
theorem dX6_divMod_88 : decode cX6_divMod 88 = .ok (.invokevirtual 87, 3) := by decide +kernel
theorem dX6_divMod_91 : decode cX6_divMod 91 = .ok (.aload_n 0, 1) := by decide +kernel
theorem dX6_divMod_92 : decode cX6_divMod 92 = .ok (.getfield 16, 3) := by decide +kernel
theorem dX6_divMod_95 : decode cX6_divMod 95 = .ok (.bipush 16, 2) := by decide +kernel
theorem dX6_divMod_97 : decode cX6_divMod 97 = .ok (.iload 6, 2) := by decide +kernel
theorem dX6_divMod_99 : decode cX6_divMod 99 = .ok (.ifCond .eq 17, 3) := by decide +kernel
theorem dX6_divMod_102 : decode cX6_divMod 102 = .ok (.aload_n 0, 1) := by decide +kernel
theorem dX6_divMod_103 : decode cX6_divMod 103 = .ok (.getfield 13, 3) := by decide +kernel
theorem dX6_divMod_106 : decode cX6_divMod 106 = .ok (.bipush 16, 2) := by decide +kernel
theorem dX6_divMod_108 : decode cX6_divMod 108 = .ok (.iaload, 1) := by decide +kernel
theorem dX6_divMod_109 : decode cX6_divMod 109 = .ok (.ifCond .le 7, 3) := by decide +kernel
theorem dX6_divMod_112 : decode cX6_divMod 112 = .ok (.iconst 1, 1) := by decide +kernel
theorem dX6_divMod_113 : decode cX6_divMod 113 = .ok (.goto 4, 3) := by decide +kernel
theorem dX6_divMod_116 : decode cX6_divMod 116 = .ok (.iconst 0, 1) := by decide +kernel
theorem dX6_divMod_117 : decode cX6_divMod 117 = .ok (.bastore, 1) := by decide +kernel
theorem dX6_divMod_118 : decode cX6_divMod 118 = .ok (.aload_n 0, 1) := by decide +kernel
theorem dX6_divMod_119 : decode cX6_divMod 119 = .ok (.getfield 16, 3) := by decide +kernel
theorem dX6_divMod_122 : decode cX6_divMod 122 = .ok (.bipush 17, 2) := by decide +kernel
theorem dX6_divMod_124 : decode cX6_divMod 124 = .ok (.iload 5, 2) := by decide +kernel
theorem dX6_divMod_126 : decode cX6_divMod 126 = .ok (.ifCond .eq 17, 3) := by decide +kernel
theorem dX6_divMod_129 : decode cX6_divMod 129 = .ok (.aload_n 0, 1) := by decide +kernel
theorem dX6_divMod_130 : decode cX6_divMod 130 = .ok (.getfield 13, 3) := by decide +kernel
theorem dX6_divMod_133 : decode cX6_divMod 133 = .ok (.bipush 17, 2) := by decide +kernel
theorem dX6_divMod_135 : decode cX6_divMod 135 = .ok (.iaload, 1) := by decide +kernel
theorem dX6_divMod_136 : decode cX6_divMod 136 = .ok (.ifCond .le 7, 3) := by decide +kernel
theorem dX6_divMod_139 : decode cX6_divMod 139 = .ok (.iconst 1, 1) := by decide +kernel
theorem dX6_divMod_140 : decode cX6_divMod 140 = .ok (.goto 4, 3) := by decide +kernel
theorem dX6_divMod_143 : decode cX6_divMod 143 = .ok (.iconst 0, 1) := by decide +kernel
theorem dX6_divMod_144 : decode cX6_divMod 144 = .ok (.bastore, 1) := by decide +kernel
theorem dX6_divMod_145 : decode cX6_divMod 145 = .ok (.aload_n 0, 1) := by decide +kernel
theorem dX6_divMod_146 : decode cX6_divMod 146 = .ok (.iload_n 1, 1) := by decide +kernel
theorem dX6_divMod_147 : decode cX6_divMod 147 = .ok (.bipush 16, 2) := by decide +kernel
theorem dX6_divMod_149 : decode cX6_divMod 149 = .ok (.invokevirtual 51, 3) := by decide +kernel
theorem dX6_divMod_152 : decode cX6_divMod 152 = .ok (.aload_n 0, 1) := by decide +kernel
theorem dX6_divMod_153 : decode cX6_divMod 153 = .ok (.iload_n 2, 1) := by decide +kernel
theorem dX6_divMod_154 : decode cX6_divMod 154 = .ok (.bipush 17, 2) := by decide +kernel
theorem dX6_divMod_156 : decode cX6_divMod 156 = .ok (.invokevirtual 51, 3) := by decide +kernel
theorem dX6_divMod_159 : decode cX6_divMod 159 = .ok (.iconst 0, 1) := by decide +kernel
theorem dX6_divMod_160 : decode cX6_divMod 160 = .ok (.ireturn, 1) := by decide +kernel
set_option maxRecDepth 20000 in
theorem ggX6_bitsOf_X6_digit : GoodIn wsX6_bitsOf wsX6_digit := goodIn_r _ [6, 1, 7, 8, 9, 10, 11, 12, 13, 14, 15, 16] rfl (by decide +kernel)
set_option maxRecDepth 20000 in
theorem gX6_bitsOf_X6_digit : GoodIn wsX6_bitsOf (wsV RX6 39 RX6 yX6_digit wsX6_digit) := goodIn_app (goodIn_of _ (by decide +kernel)) ggX6_bitsOf_X6_digit
theorem dX6_bitsOf_0 : decode cX6_bitsOf 0 = .ok (.iconst 0, 1) := by decide +kernel
theorem dX6_bitsOf_1 : decode cX6_bitsOf 1 = .ok (.istore_n 2, 1) := by decide +kernel
theorem dX6_bitsOf_2 : decode cX6_bitsOf 2 = .ok (.aload_n 0, 1) := by decide +kernel
theorem dX6_bitsOf_3 : decode cX6_bitsOf 3 = .ok (.getfield 13, 3) := by decide +kernel
theorem dX6_bitsOf_6 : decode cX6_bitsOf 6 = .ok (.iload_n 1, 1) := by decide +kernel
theorem dX6_bitsOf_7 : decode cX6_bitsOf 7 = .ok (.iaload, 1) := by decide +kernel
theorem dX6_bitsOf_8 : decode cX6_bitsOf 8 = .ok (.ifCond .le 43, 3) := by decide +kernel
theorem dX6_bitsOf_11 : decode cX6_bitsOf 11 = .ok (.bipush 16, 2) := by decide +kernel
theorem dX6_bitsOf_13 : decode cX6_bitsOf 13 = .ok (.aload_n 0, 1) := by decide +kernel
theorem dX6_bitsOf_14 : decode cX6_bitsOf 14 = .ok (.getfield 13, 3) := by decide +kernel
theorem dX6_bitsOf_17 : decode cX6_bitsOf 17 = .ok (.iload_n 1, 1) := by decide +kernel
theorem dX6_bitsOf_18 : decode cX6_bitsOf 18 = .ok (.iaload, 1) := by decide +kernel
theorem dX6_bitsOf_19 : decode cX6_bitsOf 19 = .ok (.iconst 1, 1) := by decide +kernel
theorem dX6_bitsOf_20 : decode cX6_bitsOf 20 = .ok (.isub, 1) := by decide +kernel
theorem dX6_bitsOf_21 : decode cX6_bitsOf 21 = .ok (.imul, 1) := by decide +kernel
theorem dX6_bitsOf_22 : decode cX6_bitsOf 22 = .ok (.istore_n 2, 1) := by decide +kernel
theorem dX6_bitsOf_23 : decode cX6_bitsOf 23 = .ok (.aload_n 0, 1) := by decide +kernel
theorem dX6_bitsOf_24 : decode cX6_bitsOf 24 = .ok (.iload_n 1, 1) := by decide +kernel
theorem dX6_bitsOf_25 : decode cX6_bitsOf 25 = .ok (.aload_n 0, 1) := by decide +kernel
theorem dX6_bitsOf_26 : decode cX6_bitsOf 26 = .ok (.getfield 13, 3) := by decide +kernel
theorem dX6_bitsOf_29 : decode cX6_bitsOf 29 = .ok (.iload_n 1, 1) := by decide +kernel
theorem dX6_bitsOf_30 : decode cX6_bitsOf 30 = .ok (.iaload, 1) := by decide +kernel
theorem dX6_bitsOf_31 : decode cX6_bitsOf 31 = .ok (.iconst 1, 1) := by decide +kernel
theorem dX6_bitsOf_32 : decode cX6_bitsOf 32 = .ok (.isub, 1) := by decide +kernel
theorem dX6_bitsOf_33 : decode cX6_bitsOf 33 = .ok (.invokevirtual 39, 3) := by decide +kernel
theorem dX6_bitsOf_36 : decode cX6_bitsOf 36 = .ok (.istore_n 3, 1) := by decide +kernel
theorem dX6_bitsOf_37 : decode cX6_bitsOf 37 = .ok (.iload_n 3, 1) := by decide +kernel
theorem dX6_bitsOf_38 : decode cX6_bitsOf 38 = .ok (.ifCond .le 13, 3) := by decide +kernel
theorem dX6_bitsOf_41 : decode cX6_bitsOf 41 = .ok (.iinc 2 1, 3) := by decide +kernel
theorem dX6_bitsOf_44 : decode cX6_bitsOf 44 = .ok (.iload_n 3, 1) := by decide +kernel
theorem dX6_bitsOf_45 : decode cX6_bitsOf 45 = .ok (.iconst 1, 1) := by decide +kernel
theorem dX6_bitsOf_46 : decode cX6_bitsOf 46 = .ok (.ishr, 1) := by decide +kernel
theorem dX6_bitsOf_47 : decode cX6_bitsOf 47 = .ok (.istore_n 3, 1) := by decide +kernel
theorem dX6_bitsOf_48 : decode cX6_bitsOf 48 = .ok (.goto (-11), 3) := by decide +kernel
theorem dX6_bitsOf_51 : decode cX6_bitsOf 51 = .ok (.iload_n 2, 1) := by decide +kernel
theorem dX6_bitsOf_52 : decode cX6_bitsOf 52 = .ok (.ireturn, 1) := by decide +kernel
set_option maxRecDepth 20000 in
theorem ggX6_shl_X6_is : GoodIn wsX6_shl wsX6_is := goodIn_r _ [9, 10, 41, 42, 43, 44, 45, 46, 47, 48, 49] rfl (by decide +kernel)
set_option maxRecDepth 20000 in
theorem gX6_shl_X6_is : GoodIn wsX6_shl (wsV RX6 61 RX6 yX6_is wsX6_is) := goodIn_app (goodIn_of _ (by decide +kernel)) ggX6_shl_X6_is
set_option maxRecDepth 20000 in
theorem ggX6_shl_X6_bitsOf : GoodIn wsX6_shl wsX6_bitsOf := goodIn_r _ [14, 1, 15, 16, 17, 8, 18, 19, 41, 42, 43, 44, 45, 46, 47, 48, 49] rfl (by decide +kernel)
set_option maxRecDepth 20000 in
theorem gX6_shl_X6_bitsOf : GoodIn wsX6_shl (wsV RX6 90 RX6 yX6_bitsOf wsX6_bitsOf) := goodIn_app (goodIn_of _ (by decide +kernel)) ggX6_shl_X6_bitsOf
set_option maxRecDepth 20000 in
theorem ggX6_shl_X6_shiftUp : GoodIn wsX6_shl wsX6_shiftUp := goodIn_r _ [23, 1, 24, 15, 16, 17, 8, 18, 19, 25, 26, 27, 28, 29, 30, 31, 32, 4, 41, 42, 43, 44, 45, 46, 47, 48, 49] rfl (by decide +kernel)
set_option maxRecDepth 20000 in
theorem gX6_shl_X6_shiftUp : GoodIn wsX6_shl (wsV RX6 55 RX6 yX6_shiftUp wsX6_shiftUp) := goodIn_app (goodIn_of _ (by decide +kernel)) ggX6_shl_X6_shiftUp
set_option maxRecDepth 20000 in
theorem ggX6_shl_X6_keep : GoodIn wsX6_shl wsX6_keep := goodIn_r _ [36, 1, 3, 37, 38, 39, 8, 40, 19, 4, 41, 42, 43, 44, 45, 46, 47, 48, 49] rfl (by decide +kernel)
set_option maxRecDepth 20000 in
theorem gX6_shl_X6_keep : GoodIn wsX6_shl (wsV RX6 69 RX6 yX6_keep wsX6_keep) := goodIn_app (goodIn_of _ (by decide +kernel)) ggX6_shl_X6_keep
theorem dX6_shl_0 : decode cX6_shl 0 = .ok (.aload_n 0, 1) := by decide +kernel
theorem dX6_shl_1 : decode cX6_shl 1 = .ok (.iload_n 1, 1) := by decide +kernel
theorem dX6_shl_2 : decode cX6_shl 2 = .ok (.invokevirtual 61, 3) := by decide +kernel
theorem dX6_shl_5 : decode cX6_shl 5 = .ok (.ifCond .eq 11, 3) := by decide +kernel
theorem dX6_shl_8 : decode cX6_shl 8 = .ok (.aload_n 0, 1) := by decide +kernel
theorem dX6_shl_9 : decode cX6_shl 9 = .ok (.iload_n 2, 1) := by decide +kernel
theorem dX6_shl_10 : decode cX6_shl 10 = .ok (.invokevirtual 61, 3) := by decide +kernel
theorem dX6_shl_13 : decode cX6_shl 13 = .ok (.ifCond .ne 5, 3) := by decide +kernel
theorem dX6_shl_16 : decode cX6_shl 16 = .ok (.iconst (-1), 1) := by decide +kernel
theorem dX6_shl_17 : decode cX6_shl 17 = .ok (.ireturn, 1) := by decide +kernel
theorem dX6_shl_18 : decode cX6_shl 18 = .ok (.iload_n 3, 1) := by decide +kernel
theorem dX6_shl_19 : decode cX6_shl 19 = .ok (.ifCond .ge 6, 3) := by decide +kernel
theorem dX6_shl_22 : decode cX6_shl 22 = .ok (.bipush (-2), 2) := by decide +kernel
theorem dX6_shl_24 : decode cX6_shl 24 = .ok (.ireturn, 1) := by decide +kernel
theorem dX6_shl_25 : decode cX6_shl 25 = .ok (.aload_n 0, 1) := by decide +kernel
theorem dX6_shl_26 : decode cX6_shl 26 = .ok (.getfield 13, 3) := by decide +kernel
theorem dX6_shl_29 : decode cX6_shl 29 = .ok (.iload_n 2, 1) := by decide +kernel
theorem dX6_shl_30 : decode cX6_shl 30 = .ok (.iaload, 1) := by decide +kernel
theorem dX6_shl_31 : decode cX6_shl 31 = .ok (.ifCond .le 28, 3) := by decide +kernel
theorem dX6_shl_34 : decode cX6_shl 34 = .ok (.aload_n 0, 1) := by decide +kernel
theorem dX6_shl_35 : decode cX6_shl 35 = .ok (.iload_n 2, 1) := by decide +kernel
theorem dX6_shl_36 : decode cX6_shl 36 = .ok (.invokevirtual 90, 3) := by decide +kernel
theorem dX6_shl_39 : decode cX6_shl 39 = .ok (.i2l, 1) := by decide +kernel
theorem dX6_shl_40 : decode cX6_shl 40 = .ok (.iload_n 3, 1) := by decide +kernel
theorem dX6_shl_41 : decode cX6_shl 41 = .ok (.i2l, 1) := by decide +kernel
theorem dX6_shl_42 : decode cX6_shl 42 = .ok (.ladd, 1) := by decide +kernel
theorem dX6_shl_43 : decode cX6_shl 43 = .ok (.ldc2_w 94, 3) := by decide +kernel
theorem dX6_shl_46 : decode cX6_shl 46 = .ok (.aload_n 0, 1) := by decide +kernel
theorem dX6_shl_47 : decode cX6_shl 47 = .ok (.getfield 30, 3) := by decide +kernel
theorem dX6_shl_50 : decode cX6_shl 50 = .ok (.i2l, 1) := by decide +kernel
theorem dX6_shl_51 : decode cX6_shl 51 = .ok (.lmul, 1) := by decide +kernel
theorem dX6_shl_52 : decode cX6_shl 52 = .ok (.lcmp, 1) := by decide +kernel
theorem dX6_shl_53 : decode cX6_shl 53 = .ok (.ifCond .le 6, 3) := by decide +kernel
theorem dX6_shl_56 : decode cX6_shl 56 = .ok (.bipush (-3), 2) := by decide +kernel
theorem dX6_shl_58 : decode cX6_shl 58 = .ok (.ireturn, 1) := by decide +kernel
theorem dX6_shl_59 : decode cX6_shl 59 = .ok (.aload_n 0, 1) := by decide +kernel
theorem dX6_shl_60 : decode cX6_shl 60 = .ok (.getfield 16, 3) := by decide +kernel
theorem dX6_shl_63 : decode cX6_shl 63 = .ok (.iload_n 2, 1) := by decide +kernel
theorem dX6_shl_64 : decode cX6_shl 64 = .ok (.baload, 1) := by decide +kernel
theorem dX6_shl_65 : decode cX6_shl 65 = .ok (.istore 4, 2) := by decide +kernel
theorem dX6_shl_67 : decode cX6_shl 67 = .ok (.aload_n 0, 1) := by decide +kernel
theorem dX6_shl_68 : decode cX6_shl 68 = .ok (.getfield 13, 3) := by decide +kernel
theorem dX6_shl_71 : decode cX6_shl 71 = .ok (.iload_n 2, 1) := by decide +kernel
theorem dX6_shl_72 : decode cX6_shl 72 = .ok (.iaload, 1) := by decide +kernel
theorem dX6_shl_73 : decode cX6_shl 73 = .ok (.ifCond .ne 14, 3) := by decide +kernel
theorem dX6_shl_76 : decode cX6_shl 76 = .ok (.aload_n 0, 1) := by decide +kernel
theorem dX6_shl_77 : decode cX6_shl 77 = .ok (.getfield 13, 3) := by decide +kernel
theorem dX6_shl_80 : decode cX6_shl 80 = .ok (.bipush 14, 2) := by decide +kernel
theorem dX6_shl_82 : decode cX6_shl 82 = .ok (.iconst 0, 1) := by decide +kernel
theorem dX6_shl_83 : decode cX6_shl 83 = .ok (.iastore, 1) := by decide +kernel
theorem dX6_shl_84 : decode cX6_shl 84 = .ok (.goto 11, 3) := by decide +kernel
theorem dX6_shl_87 : decode cX6_shl 87 = .ok (.aload_n 0, 1) := by decide +kernel
theorem dX6_shl_88 : decode cX6_shl 88 = .ok (.bipush 14, 2) := by decide +kernel
theorem dX6_shl_90 : decode cX6_shl 90 = .ok (.iload_n 2, 1) := by decide +kernel
theorem dX6_shl_91 : decode cX6_shl 91 = .ok (.iload_n 3, 1) := by decide +kernel
theorem dX6_shl_92 : decode cX6_shl 92 = .ok (.invokevirtual 55, 3) := by decide +kernel
theorem dX6_shl_95 : decode cX6_shl 95 = .ok (.aload_n 0, 1) := by decide +kernel
theorem dX6_shl_96 : decode cX6_shl 96 = .ok (.getfield 16, 3) := by decide +kernel
theorem dX6_shl_99 : decode cX6_shl 99 = .ok (.bipush 14, 2) := by decide +kernel
theorem dX6_shl_101 : decode cX6_shl 101 = .ok (.iload 4, 2) := by decide +kernel
theorem dX6_shl_103 : decode cX6_shl 103 = .ok (.ifCond .eq 17, 3) := by decide +kernel
theorem dX6_shl_106 : decode cX6_shl 106 = .ok (.aload_n 0, 1) := by decide +kernel
theorem dX6_shl_107 : decode cX6_shl 107 = .ok (.getfield 13, 3) := by decide +kernel
theorem dX6_shl_110 : decode cX6_shl 110 = .ok (.bipush 14, 2) := by decide +kernel
theorem dX6_shl_112 : decode cX6_shl 112 = .ok (.iaload, 1) := by decide +kernel
theorem dX6_shl_113 : decode cX6_shl 113 = .ok (.ifCond .le 7, 3) := by decide +kernel
theorem dX6_shl_116 : decode cX6_shl 116 = .ok (.iconst 1, 1) := by decide +kernel
theorem dX6_shl_117 : decode cX6_shl 117 = .ok (.goto 4, 3) := by decide +kernel
theorem dX6_shl_120 : decode cX6_shl 120 = .ok (.iconst 0, 1) := by decide +kernel
theorem dX6_shl_121 : decode cX6_shl 121 = .ok (.bastore, 1) := by decide +kernel
theorem dX6_shl_122 : decode cX6_shl 122 = .ok (.aload_n 0, 1) := by decide +kernel
theorem dX6_shl_123 : decode cX6_shl 123 = .ok (.iload_n 1, 1) := by decide +kernel
theorem dX6_shl_124 : decode cX6_shl 124 = .ok (.bipush 14, 2) := by decide +kernel
theorem dX6_shl_126 : decode cX6_shl 126 = .ok (.invokevirtual 69, 3) := by decide +kernel
theorem dX6_shl_129 : decode cX6_shl 129 = .ok (.ireturn, 1) := by decide +kernel
set_option maxRecDepth 20000 in
theorem ggX6_shr_X6_is : GoodIn wsX6_shr wsX6_is := goodIn_r _ [9, 10, 46, 47, 48, 49, 50, 51, 52, 53, 54] rfl (by decide +kernel)
set_option maxRecDepth 20000 in
theorem gX6_shr_X6_is : GoodIn wsX6_shr (wsV RX6 61 RX6 yX6_is wsX6_is) := goodIn_app (goodIn_of _ (by decide +kernel)) ggX6_shr_X6_is
set_option maxRecDepth 20000 in
theorem ggX6_shr_X6_digit : GoodIn wsX6_shr wsX6_digit := goodIn_r _ [14, 1, 15, 46, 47, 48, 49, 50, 51, 52, 53, 54] rfl (by decide +kernel)
set_option maxRecDepth 20000 in
theorem gX6_shr_X6_digit : GoodIn wsX6_shr (wsV RX6 39 RX6 yX6_digit wsX6_digit) := goodIn_app (goodIn_of _ (by decide +kernel)) ggX6_shr_X6_digit
set_option maxRecDepth 20000 in
theorem ggX6_shr_X6_shiftDown : GoodIn wsX6_shr wsX6_shiftDown := goodIn_r _ [19, 1, 15, 3, 20, 21, 22, 8, 23, 24, 25, 26, 27, 4, 46, 47, 48, 49, 50, 51, 52, 53, 54] rfl (by decide +kernel)
set_option maxRecDepth 20000 in
theorem gX6_shr_X6_shiftDown : GoodIn wsX6_shr (wsV RX6 58 RX6 yX6_shiftDown wsX6_shiftDown) := goodIn_app (goodIn_of _ (by decide +kernel)) ggX6_shr_X6_shiftDown
set_option maxRecDepth 20000 in
theorem ggX6_shr_X6_small : GoodIn wsX6_shr wsX6_small := goodIn_r _ [31, 32, 1, 4, 20, 21, 22, 8, 23, 15, 46, 47, 48, 49, 50, 51, 52, 53, 54] rfl (by decide +kernel)
set_option maxRecDepth 20000 in
theorem gX6_shr_X6_small : GoodIn wsX6_shr (wsV RX6 65 RX6 yX6_small wsX6_small) := goodIn_app (goodIn_of _ (by decide +kernel)) ggX6_shr_X6_small
set_option maxRecDepth 20000 in
theorem ggX6_shr_X6_plus : GoodIn wsX6_shr wsX6_plus := goodIn_r _ [36, 1, 3, 11, 12, 13, 8, 14, 15, 20, 21, 22, 23, 24, 25, 26, 27, 4, 46, 47, 48, 49, 50, 51, 52, 53, 54] rfl (by decide +kernel)
set_option maxRecDepth 20000 in
theorem gX6_shr_X6_plus : GoodIn wsX6_shr (wsV RX6 74 RX6 yX6_plus wsX6_plus) := goodIn_app (goodIn_of _ (by decide +kernel)) ggX6_shr_X6_plus
set_option maxRecDepth 20000 in
theorem ggX6_shr_X6_move : GoodIn wsX6_shr wsX6_move := goodIn_r _ [40, 1, 15, 4, 46, 47, 48, 49, 50, 51, 52, 53, 54] rfl (by decide +kernel)
set_option maxRecDepth 20000 in
theorem gX6_shr_X6_move : GoodIn wsX6_shr (wsV RX6 51 RX6 yX6_move wsX6_move) := goodIn_app (goodIn_of _ (by decide +kernel)) ggX6_shr_X6_move
set_option maxRecDepth 20000 in
theorem ggX6_shr_X6_keep : GoodIn wsX6_shr wsX6_keep := goodIn_r _ [44, 1, 45, 37, 38, 39, 8, 40, 15, 4, 46, 47, 48, 49, 50, 51, 52, 53, 54] rfl (by decide +kernel)
set_option maxRecDepth 20000 in
theorem gX6_shr_X6_keep : GoodIn wsX6_shr (wsV RX6 69 RX6 yX6_keep wsX6_keep) := goodIn_app (goodIn_of _ (by decide +kernel)) ggX6_shr_X6_keep
theorem dX6_shr_0 : decode cX6_shr 0 = .ok (.aload_n 0, 1) := by decide +kernel
theorem dX6_shr_1 : decode cX6_shr 1 = .ok (.iload_n 1, 1) := by decide +kernel
theorem dX6_shr_2 : decode cX6_shr 2 = .ok (.invokevirtual 61, 3) := by decide +kernel
theorem dX6_shr_5 : decode cX6_shr 5 = .ok (.ifCond .eq 11, 3) := by decide +kernel
theorem dX6_shr_8 : decode cX6_shr 8 = .ok (.aload_n 0, 1) := by decide +kernel
theorem dX6_shr_9 : decode cX6_shr 9 = .ok (.iload_n 2, 1) := by decide +kernel
theorem dX6_shr_10 : decode cX6_shr 10 = .ok (.invokevirtual 61, 3) := by decide +kernel
theorem dX6_shr_13 : decode cX6_shr 13 = .ok (.ifCond .ne 5, 3) := by decide +kernel
theorem dX6_shr_16 : decode cX6_shr 16 = .ok (.iconst (-1), 1) := by decide +kernel
theorem dX6_shr_17 : decode cX6_shr 17 = .ok (.ireturn, 1) := by decide +kernel
theorem dX6_shr_18 : decode cX6_shr 18 = .ok (.iload_n 3, 1) := by decide +kernel
theorem dX6_shr_19 : decode cX6_shr 19 = .ok (.ifCond .ge 6, 3) := by decide +kernel
theorem dX6_shr_22 : decode cX6_shr 22 = .ok (.bipush (-2), 2) := by decide +kernel
theorem dX6_shr_24 : decode cX6_shr 24 = .ok (.ireturn, 1) := by decide +kernel
theorem dX6_shr_25 : decode cX6_shr 25 = .ok (.iconst 0, 1) := by decide +kernel
theorem dX6_shr_26 : decode cX6_shr 26 = .ok (.istore 4, 2) := by decide +kernel
theorem dX6_shr_28 : decode cX6_shr 28 = .ok (.iconst 0, 1) := by decide +kernel
theorem dX6_shr_29 : decode cX6_shr 29 = .ok (.istore 5, 2) := by decide +kernel
theorem dX6_shr_31 : decode cX6_shr 31 = .ok (.iload 5, 2) := by decide +kernel
theorem dX6_shr_33 : decode cX6_shr 33 = .ok (.aload_n 0, 1) := by decide +kernel
theorem dX6_shr_34 : decode cX6_shr 34 = .ok (.getfield 13, 3) := by decide +kernel
theorem dX6_shr_37 : decode cX6_shr 37 = .ok (.iload_n 2, 1) := by decide +kernel
theorem dX6_shr_38 : decode cX6_shr 38 = .ok (.iaload, 1) := by decide +kernel
theorem dX6_shr_39 : decode cX6_shr 39 = .ok (.if_icmp .ge 77, 3) := by decide +kernel
theorem dX6_shr_42 : decode cX6_shr 42 = .ok (.ldc2_w 94, 3) := by decide +kernel
theorem dX6_shr_45 : decode cX6_shr 45 = .ok (.iload 5, 2) := by decide +kernel
theorem dX6_shr_47 : decode cX6_shr 47 = .ok (.i2l, 1) := by decide +kernel
theorem dX6_shr_48 : decode cX6_shr 48 = .ok (.lmul, 1) := by decide +kernel
theorem dX6_shr_49 : decode cX6_shr 49 = .ok (.iload_n 3, 1) := by decide +kernel
theorem dX6_shr_50 : decode cX6_shr 50 = .ok (.i2l, 1) := by decide +kernel
theorem dX6_shr_51 : decode cX6_shr 51 = .ok (.lcmp, 1) := by decide +kernel
theorem dX6_shr_52 : decode cX6_shr 52 = .ok (.ifCond .ge 64, 3) := by decide +kernel
theorem dX6_shr_55 : decode cX6_shr 55 = .ok (.iload_n 3, 1) := by decide +kernel
theorem dX6_shr_56 : decode cX6_shr 56 = .ok (.bipush 16, 2) := by decide +kernel
theorem dX6_shr_58 : decode cX6_shr 58 = .ok (.iload 5, 2) := by decide +kernel
theorem dX6_shr_60 : decode cX6_shr 60 = .ok (.imul, 1) := by decide +kernel
theorem dX6_shr_61 : decode cX6_shr 61 = .ok (.isub, 1) := by decide +kernel
theorem dX6_shr_62 : decode cX6_shr 62 = .ok (.bipush 16, 2) := by decide +kernel
theorem dX6_shr_64 : decode cX6_shr 64 = .ok (.if_icmp .lt 8, 3) := by decide +kernel
theorem dX6_shr_67 : decode cX6_shr 67 = .ok (.ldc 43, 2) := by decide +kernel
theorem dX6_shr_69 : decode cX6_shr 69 = .ok (.goto 14, 3) := by decide +kernel
theorem dX6_shr_72 : decode cX6_shr 72 = .ok (.iconst 1, 1) := by decide +kernel
theorem dX6_shr_73 : decode cX6_shr 73 = .ok (.iload_n 3, 1) := by decide +kernel
theorem dX6_shr_74 : decode cX6_shr 74 = .ok (.bipush 16, 2) := by decide +kernel
theorem dX6_shr_76 : decode cX6_shr 76 = .ok (.iload 5, 2) := by decide +kernel
theorem dX6_shr_78 : decode cX6_shr 78 = .ok (.imul, 1) := by decide +kernel
theorem dX6_shr_79 : decode cX6_shr 79 = .ok (.isub, 1) := by decide +kernel
theorem dX6_shr_80 : decode cX6_shr 80 = .ok (.ishl, 1) := by decide +kernel
theorem dX6_shr_81 : decode cX6_shr 81 = .ok (.iconst 1, 1) := by decide +kernel
theorem dX6_shr_82 : decode cX6_shr 82 = .ok (.isub, 1) := by decide +kernel
theorem dX6_shr_83 : decode cX6_shr 83 = .ok (.istore 6, 2) := by decide +kernel
theorem dX6_shr_85 : decode cX6_shr 85 = .ok (.iload 4, 2) := by decide +kernel
theorem dX6_shr_87 : decode cX6_shr 87 = .ok (.ifCond .ne 16, 3) := by decide +kernel
theorem dX6_shr_90 : decode cX6_shr 90 = .ok (.aload_n 0, 1) := by decide +kernel
theorem dX6_shr_91 : decode cX6_shr 91 = .ok (.iload_n 2, 1) := by decide +kernel
theorem dX6_shr_92 : decode cX6_shr 92 = .ok (.iload 5, 2) := by decide +kernel
theorem dX6_shr_94 : decode cX6_shr 94 = .ok (.invokevirtual 39, 3) := by decide +kernel
theorem dX6_shr_97 : decode cX6_shr 97 = .ok (.iload 6, 2) := by decide +kernel
theorem dX6_shr_99 : decode cX6_shr 99 = .ok (.iand, 1) := by decide +kernel
theorem dX6_shr_100 : decode cX6_shr 100 = .ok (.ifCond .eq 7, 3) := by decide +kernel
theorem dX6_shr_103 : decode cX6_shr 103 = .ok (.iconst 1, 1) := by decide +kernel
theorem dX6_shr_104 : decode cX6_shr 104 = .ok (.goto 4, 3) := by decide +kernel
theorem dX6_shr_107 : decode cX6_shr 107 = .ok (.iconst 0, 1) := by decide +kernel
theorem dX6_shr_108 : decode cX6_shr 108 = .ok (.istore 4, 2) := by decide +kernel
theorem dX6_shr_110 : decode cX6_shr 110 = .ok (.iinc 5 1, 3) := by decide +kernel
theorem dX6_shr_113 : decode cX6_shr 113 = .ok (.goto (-82), 3) := by decide +kernel
theorem dX6_shr_116 : decode cX6_shr 116 = .ok (.aload_n 0, 1) := by decide +kernel
theorem dX6_shr_117 : decode cX6_shr 117 = .ok (.getfield 16, 3) := by decide +kernel
theorem dX6_shr_120 : decode cX6_shr 120 = .ok (.iload_n 2, 1) := by decide +kernel
theorem dX6_shr_121 : decode cX6_shr 121 = .ok (.baload, 1) := by decide +kernel
theorem dX6_shr_122 : decode cX6_shr 122 = .ok (.istore 5, 2) := by decide +kernel
theorem dX6_shr_124 : decode cX6_shr 124 = .ok (.aload_n 0, 1) := by decide +kernel
theorem dX6_shr_125 : decode cX6_shr 125 = .ok (.getfield 16, 3) := by decide +kernel
theorem dX6_shr_128 : decode cX6_shr 128 = .ok (.bipush 14, 2) := by decide +kernel
theorem dX6_shr_130 : decode cX6_shr 130 = .ok (.iconst 0, 1) := by decide +kernel
theorem dX6_shr_131 : decode cX6_shr 131 = .ok (.bastore, 1) := by decide +kernel
theorem dX6_shr_132 : decode cX6_shr 132 = .ok (.aload_n 0, 1) := by decide +kernel
theorem dX6_shr_133 : decode cX6_shr 133 = .ok (.bipush 14, 2) := by decide +kernel
theorem dX6_shr_135 : decode cX6_shr 135 = .ok (.iload_n 2, 1) := by decide +kernel
theorem dX6_shr_136 : decode cX6_shr 136 = .ok (.iload_n 3, 1) := by decide +kernel
theorem dX6_shr_137 : decode cX6_shr 137 = .ok (.invokevirtual 58, 3) := by decide +kernel
theorem dX6_shr_140 : decode cX6_shr 140 = .ok (.iload 5, 2) := by decide +kernel
theorem dX6_shr_142 : decode cX6_shr 142 = .ok (.ifCond .eq 33, 3) := by decide +kernel
theorem dX6_shr_145 : decode cX6_shr 145 = .ok (.iload 4, 2) := by decide +kernel
theorem dX6_shr_147 : decode cX6_shr 147 = .ok (.ifCond .eq 28, 3) := by decide +kernel
theorem dX6_shr_150 : decode cX6_shr 150 = .ok (.aload_n 0, 1) := by decide +kernel
theorem dX6_shr_151 : decode cX6_shr 151 = .ok (.bipush 13, 2) := by decide +kernel
theorem dX6_shr_153 : decode cX6_shr 153 = .ok (.lconst 1, 1) := by decide +kernel
theorem dX6_shr_154 : decode cX6_shr 154 = .ok (.invokevirtual 65, 3) := by decide +kernel
theorem dX6_shr_157 : decode cX6_shr 157 = .ok (.aload_n 0, 1) := by decide +kernel
theorem dX6_shr_158 : decode cX6_shr 158 = .ok (.bipush 15, 2) := by decide +kernel
theorem dX6_shr_160 : decode cX6_shr 160 = .ok (.bipush 14, 2) := by decide +kernel
theorem dX6_shr_162 : decode cX6_shr 162 = .ok (.bipush 13, 2) := by decide +kernel
theorem dX6_shr_164 : decode cX6_shr 164 = .ok (.invokevirtual 74, 3) := by decide +kernel
theorem dX6_shr_167 : decode cX6_shr 167 = .ok (.aload_n 0, 1) := by decide +kernel
theorem dX6_shr_168 : decode cX6_shr 168 = .ok (.bipush 14, 2) := by decide +kernel
theorem dX6_shr_170 : decode cX6_shr 170 = .ok (.bipush 15, 2) := by decide +kernel
theorem dX6_shr_172 : decode cX6_shr 172 = .ok (.invokevirtual 51, 3) := by decide +kernel
theorem dX6_shr_175 : decode cX6_shr 175 = .ok (.aload_n 0, 1) := by decide +kernel
theorem dX6_shr_176 : decode cX6_shr 176 = .ok (.getfield 16, 3) := by decide +kernel
theorem dX6_shr_179 : decode cX6_shr 179 = .ok (.bipush 14, 2) := by decide +kernel
theorem dX6_shr_181 : decode cX6_shr 181 = .ok (.iload 5, 2) := by decide +kernel
theorem dX6_shr_183 : decode cX6_shr 183 = .ok (.ifCond .eq 17, 3) := by decide +kernel
theorem dX6_shr_186 : decode cX6_shr 186 = .ok (.aload_n 0, 1) := by decide +kernel
theorem dX6_shr_187 : decode cX6_shr 187 = .ok (.getfield 13, 3) := by decide +kernel
theorem dX6_shr_190 : decode cX6_shr 190 = .ok (.bipush 14, 2) := by decide +kernel
theorem dX6_shr_192 : decode cX6_shr 192 = .ok (.iaload, 1) := by decide +kernel
theorem dX6_shr_193 : decode cX6_shr 193 = .ok (.ifCond .le 7, 3) := by decide +kernel
theorem dX6_shr_196 : decode cX6_shr 196 = .ok (.iconst 1, 1) := by decide +kernel
theorem dX6_shr_197 : decode cX6_shr 197 = .ok (.goto 4, 3) := by decide +kernel
theorem dX6_shr_200 : decode cX6_shr 200 = .ok (.iconst 0, 1) := by decide +kernel
theorem dX6_shr_201 : decode cX6_shr 201 = .ok (.bastore, 1) := by decide +kernel
theorem dX6_shr_202 : decode cX6_shr 202 = .ok (.aload_n 0, 1) := by decide +kernel
theorem dX6_shr_203 : decode cX6_shr 203 = .ok (.iload_n 1, 1) := by decide +kernel
theorem dX6_shr_204 : decode cX6_shr 204 = .ok (.bipush 14, 2) := by decide +kernel
theorem dX6_shr_206 : decode cX6_shr 206 = .ok (.invokevirtual 69, 3) := by decide +kernel
theorem dX6_shr_209 : decode cX6_shr 209 = .ok (.ireturn, 1) := by decide +kernel
set_option maxRecDepth 20000 in
theorem ggX6_gcd_X6_is : GoodIn wsX6_gcd wsX6_is := goodIn_r _ [7, 8, 50, 51, 52, 53, 54, 55, 56, 57, 58] rfl (by decide +kernel)
