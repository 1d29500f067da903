theorem dL_act_297 : decode cL_act 297 = .ok (.invokevirtual 111, 3) := by decide +kernel
theorem dL_act_300 : decode cL_act 300 = .ok (.i2l, 1) := by decide +kernel
theorem dL_act_301 : decode cL_act 301 = .ok (.ldc2_w 90, 3) := by decide +kernel
theorem dL_act_304 : decode cL_act 304 = .ok (.lmul, 1) := by decide +kernel
theorem dL_act_305 : decode cL_act 305 = .ok (.aload_n 0, 1) := by decide +kernel
theorem dL_act_306 : decode cL_act 306 = .ok (.invokevirtual 114, 3) := by decide +kernel
theorem dL_act_309 : decode cL_act 309 = .ok (.i2l, 1) := by decide +kernel
theorem dL_act_310 : decode cL_act 310 = .ok (.ladd, 1) := by decide +kernel
theorem dL_act_311 : decode cL_act 311 = .ok (.lreturn, 1) := by decide +kernel
theorem dL_act_312 : decode cL_act 312 = .ok (.iload_n 1, 1) := by decide +kernel
theorem dL_act_313 : decode cL_act 313 = .ok (.sipush 240, 3) := by decide +kernel
theorem dL_act_316 : decode cL_act 316 = .ok (.iand, 1) := by decide +kernel
theorem dL_act_317 : decode cL_act 317 = .ok (.ifCond .ne 14, 3) := by decide +kernel
theorem dL_act_320 : decode cL_act 320 = .ok (.aload_n 0, 1) := by decide +kernel
theorem dL_act_321 : decode cL_act 321 = .ok (.iload_n 2, 1) := by decide +kernel
theorem dL_act_322 : decode cL_act 322 = .ok (.iconst 1, 1) := by decide +kernel
theorem dL_act_323 : decode cL_act 323 = .ok (.iand, 1) := by decide +kernel
theorem dL_act_324 : decode cL_act 324 = .ok (.invokevirtual 117, 3) := by decide +kernel
theorem dL_act_327 : decode cL_act 327 = .ok (.i2l, 1) := by decide +kernel
theorem dL_act_328 : decode cL_act 328 = .ok (.goto 73, 3) := by decide +kernel
theorem dL_act_331 : decode cL_act 331 = .ok (.aload_n 0, 1) := by decide +kernel
theorem dL_act_332 : decode cL_act 332 = .ok (.iload_n 2, 1) := by decide +kernel
theorem dL_act_333 : decode cL_act 333 = .ok (.iconst 1, 1) := by decide +kernel
theorem dL_act_334 : decode cL_act 334 = .ok (.iand, 1) := by decide +kernel
theorem dL_act_335 : decode cL_act 335 = .ok (.iload_n 1, 1) := by decide +kernel
theorem dL_act_336 : decode cL_act 336 = .ok (.bipush 8, 2) := by decide +kernel
theorem dL_act_338 : decode cL_act 338 = .ok (.ishr, 1) := by decide +kernel
theorem dL_act_339 : decode cL_act 339 = .ok (.bipush 8, 2) := by decide +kernel
theorem dL_act_341 : decode cL_act 341 = .ok (.invokestatic 26, 3) := by decide +kernel
theorem dL_act_344 : decode cL_act 344 = .ok (.invokevirtual 120, 3) := by decide +kernel
theorem dL_act_347 : decode cL_act 347 = .ok (.i2l, 1) := by decide +kernel
theorem dL_act_348 : decode cL_act 348 = .ok (.ldc2_w 123, 3) := by decide +kernel
theorem dL_act_351 : decode cL_act 351 = .ok (.lmul, 1) := by decide +kernel
theorem dL_act_352 : decode cL_act 352 = .ok (.aload_n 0, 1) := by decide +kernel
theorem dL_act_353 : decode cL_act 353 = .ok (.invokevirtual 125, 3) := by decide +kernel
theorem dL_act_356 : decode cL_act 356 = .ok (.i2l, 1) := by decide +kernel
theorem dL_act_357 : decode cL_act 357 = .ok (.ldc2_w 128, 3) := by decide +kernel
theorem dL_act_360 : decode cL_act 360 = .ok (.lmul, 1) := by decide +kernel
theorem dL_act_361 : decode cL_act 361 = .ok (.ladd, 1) := by decide +kernel
theorem dL_act_362 : decode cL_act 362 = .ok (.aload_n 0, 1) := by decide +kernel
theorem dL_act_363 : decode cL_act 363 = .ok (.iload_n 2, 1) := by decide +kernel
theorem dL_act_364 : decode cL_act 364 = .ok (.iconst 1, 1) := by decide +kernel
theorem dL_act_365 : decode cL_act 365 = .ok (.iand, 1) := by decide +kernel
theorem dL_act_366 : decode cL_act 366 = .ok (.iload_n 1, 1) := by decide +kernel
theorem dL_act_367 : decode cL_act 367 = .ok (.bipush 11, 2) := by decide +kernel
theorem dL_act_369 : decode cL_act 369 = .ok (.ishr, 1) := by decide +kernel
theorem dL_act_370 : decode cL_act 370 = .ok (.iconst 4, 1) := by decide +kernel
theorem dL_act_371 : decode cL_act 371 = .ok (.invokestatic 26, 3) := by decide +kernel
theorem dL_act_374 : decode cL_act 374 = .ok (.invokevirtual 130, 3) := by decide +kernel
theorem dL_act_377 : decode cL_act 377 = .ok (.i2l, 1) := by decide +kernel
theorem dL_act_378 : decode cL_act 378 = .ok (.ldc2_w 133, 3) := by decide +kernel
theorem dL_act_381 : decode cL_act 381 = .ok (.lmul, 1) := by decide +kernel
theorem dL_act_382 : decode cL_act 382 = .ok (.ladd, 1) := by decide +kernel
theorem dL_act_383 : decode cL_act 383 = .ok (.aload_n 0, 1) := by decide +kernel
theorem dL_act_384 : decode cL_act 384 = .ok (.iload_n 2, 1) := by decide +kernel
theorem dL_act_385 : decode cL_act 385 = .ok (.iconst 1, 1) := by decide +kernel
theorem dL_act_386 : decode cL_act 386 = .ok (.iand, 1) := by decide +kernel
theorem dL_act_387 : decode cL_act 387 = .ok (.iload_n 2, 1) := by decide +kernel
theorem dL_act_388 : decode cL_act 388 = .ok (.iconst 1, 1) := by decide +kernel
theorem dL_act_389 : decode cL_act 389 = .ok (.ishr, 1) := by decide +kernel
theorem dL_act_390 : decode cL_act 390 = .ok (.iconst 5, 1) := by decide +kernel
theorem dL_act_391 : decode cL_act 391 = .ok (.invokestatic 26, 3) := by decide +kernel
theorem dL_act_394 : decode cL_act 394 = .ok (.iconst 1, 1) := by decide +kernel
theorem dL_act_395 : decode cL_act 395 = .ok (.isub, 1) := by decide +kernel
theorem dL_act_396 : decode cL_act 396 = .ok (.invokevirtual 135, 3) := by decide +kernel
theorem dL_act_399 : decode cL_act 399 = .ok (.i2l, 1) := by decide +kernel
theorem dL_act_400 : decode cL_act 400 = .ok (.ladd, 1) := by decide +kernel
theorem dL_act_401 : decode cL_act 401 = .ok (.lreturn, 1) := by decide +kernel
theorem dL_act_402 : decode cL_act 402 = .ok (.aload_n 0, 1) := by decide +kernel
theorem dL_act_403 : decode cL_act 403 = .ok (.iload_n 1, 1) := by decide +kernel
theorem dL_act_404 : decode cL_act 404 = .ok (.iconst 4, 1) := by decide +kernel
theorem dL_act_405 : decode cL_act 405 = .ok (.ishr, 1) := by decide +kernel
theorem dL_act_406 : decode cL_act 406 = .ok (.sipush 10000, 3) := by decide +kernel
theorem dL_act_409 : decode cL_act 409 = .ok (.invokestatic 26, 3) := by decide +kernel
theorem dL_act_412 : decode cL_act 412 = .ok (.iconst 1, 1) := by decide +kernel
theorem dL_act_413 : decode cL_act 413 = .ok (.iload_n 2, 1) := by decide +kernel
theorem dL_act_414 : decode cL_act 414 = .ok (.bipush 60, 2) := by decide +kernel
theorem dL_act_416 : decode cL_act 416 = .ok (.invokestatic 26, 3) := by decide +kernel
theorem dL_act_419 : decode cL_act 419 = .ok (.iadd, 1) := by decide +kernel
theorem dL_act_420 : decode cL_act 420 = .ok (.iload_n 2, 1) := by decide +kernel
theorem dL_act_421 : decode cL_act 421 = .ok (.bipush 8, 2) := by decide +kernel
theorem dL_act_423 : decode cL_act 423 = .ok (.ishr, 1) := by decide +kernel
theorem dL_act_424 : decode cL_act 424 = .ok (.iconst 1, 1) := by decide +kernel
theorem dL_act_425 : decode cL_act 425 = .ok (.iand, 1) := by decide +kernel
theorem dL_act_426 : decode cL_act 426 = .ok (.invokevirtual 138, 3) := by decide +kernel
theorem dL_act_429 : decode cL_act 429 = .ok (.i2l, 1) := by decide +kernel
theorem dL_act_430 : decode cL_act 430 = .ok (.lreturn, 1) := by decide +kernel
theorem dL_act_431 : decode cL_act 431 = .ok (.iload_n 1, 1) := by decide +kernel
theorem dL_act_432 : decode cL_act 432 = .ok (.bipush 16, 2) := by decide +kernel
theorem dL_act_434 : decode cL_act 434 = .ok (.iand, 1) := by decide +kernel
theorem dL_act_435 : decode cL_act 435 = .ok (.ifCond .eq 11, 3) := by decide +kernel
theorem dL_act_438 : decode cL_act 438 = .ok (.aload_n 0, 1) := by decide +kernel
theorem dL_act_439 : decode cL_act 439 = .ok (.invokevirtual 141, 3) := by decide +kernel
theorem dL_act_442 : decode cL_act 442 = .ok (.i2l, 1) := by decide +kernel
theorem dL_act_443 : decode cL_act 443 = .ok (.goto 8, 3) := by decide +kernel
theorem dL_act_446 : decode cL_act 446 = .ok (.aload_n 0, 1) := by decide +kernel
theorem dL_act_447 : decode cL_act 447 = .ok (.invokevirtual 144, 3) := by decide +kernel
theorem dL_act_450 : decode cL_act 450 = .ok (.i2l, 1) := by decide +kernel
theorem dL_act_451 : decode cL_act 451 = .ok (.lreturn, 1) := by decide +kernel
set_option maxRecDepth 20000 in
theorem ggL_law_X7_init : GoodIn wsL_law wsX7_init := goodIn_r _ [6, 7, 8, 9, 10, 11, 12, 13, 14, 15, 16, 17, 18, 19, 20, 21, 22, 23, 24, 25, 26, 27, 28, 29, 30, 31, 32, 33, 34, 35, 36, 37, 38, 39, 40, 41, 42, 43, 44, 45, 3, 46, 47, 48, 49, 50, 51, 52, 53, 54, 55, 56, 57, 58, 59, 60, 61, 62, 63, 64, 65, 66, 67, 68, 69, 70, 71, 72, 73, 74, 75, 76, 77, 78, 79, 80, 81, 82, 83, 84, 85, 86, 87, 88, 89, 90, 91, 92, 93, 94, 95, 96, 97, 98, 99, 100, 101, 102, 103, 104, 2, 105, 553, 554, 541, 542, 543, 544, 545, 546, 547, 548, 549, 550, 551, 552, 555, 556, 557, 558, 559, 560, 561, 562, 563, 564, 565, 566, 567, 568, 569, 570, 571, 572, 573, 574, 575, 576, 577, 578] (by decide +kernel) (by decide +kernel)
set_option maxRecDepth 20000 in
theorem gL_law_X7_init : GoodIn wsL_law (wsX7_init) := ggL_law_X7_init
set_option maxRecDepth 20000 in
theorem ggL_law_L_town : GoodIn wsL_law wsL_town := goodIn_r _ [109, 110, 111, 112, 108, 113, 114, 115, 116, 117, 118, 119, 120, 121, 122, 2, 123, 13, 124, 125, 126, 12, 127, 128, 129, 130, 131, 132, 133, 134, 135, 136, 137, 138, 139, 140, 141, 142, 143, 46, 144, 145, 146, 147, 148, 149, 150, 17, 22, 151, 152, 153, 16, 154, 155, 156, 157, 20, 158, 84, 85, 159, 90, 91, 160, 161, 162, 163, 164, 165, 166, 167, 168, 169, 170, 171, 172, 50, 173, 174, 175, 176, 177, 178, 179, 180, 181, 182, 183, 81, 82, 83, 184, 185, 186, 187, 188, 87, 88, 89, 54, 55, 56, 57, 58, 59, 92, 93, 94, 95, 96, 97, 98, 99, 100, 101, 102, 103, 104, 105, 189, 190, 191, 192, 21, 37, 41, 42, 29, 25, 193, 194, 195, 196, 197, 198, 199, 36, 200, 201, 202, 203, 204, 40, 205, 206, 207, 208, 209, 210, 28, 211, 212, 541, 542, 543, 544, 545, 546, 547, 548, 549, 550, 551, 552, 553, 554, 556, 557, 558, 559, 560, 561, 562, 563, 564, 565, 566, 567, 555, 574, 575, 576, 577, 578, 568, 569, 570, 571] (by decide +kernel) (by decide +kernel)
set_option maxRecDepth 20000 in
theorem gL_law_L_town : GoodIn wsL_law (va_wsS RL 148 yL_town wsL_town) := goodIn_app (goodIn_of _ (by decide +kernel)) ggL_law_L_town
set_option maxRecDepth 20000 in
theorem ggL_law_L_cell : GoodIn wsL_law wsL_cell := goodIn_r _ [113, 114, 115] (by decide +kernel) (by decide +kernel)
set_option maxRecDepth 20000 in
theorem gL_law_L_cell : GoodIn wsL_law (va_wsS RL 22 yL_cell wsL_cell) := goodIn_app (goodIn_of _ (by decide +kernel)) ggL_law_L_cell
set_option maxRecDepth 20000 in
theorem ggL_law_X7_write : GoodIn wsL_law wsX7_write := goodIn_r _ [139, 13, 124, 125, 126, 12, 127, 128, 140, 141, 142, 143, 46, 541, 542, 543, 544, 545, 546, 547, 548, 549, 550, 551, 552, 553, 554] (by decide +kernel) (by decide +kernel)
set_option maxRecDepth 20000 in
theorem gL_law_X7_write : GoodIn wsL_law (wsV RL 10 RX7 yX7_write wsX7_write) := goodIn_app (goodIn_of _ (by decide +kernel)) ggL_law_X7_write
set_option maxRecDepth 20000 in
theorem ggL_law_X7_knot : GoodIn wsL_law wsX7_knot := goodIn_r _ [216, 21, 217, 218, 219, 20, 220, 90, 221, 222, 2, 223, 224, 225, 226, 227, 228, 229, 230, 91, 57, 104, 105, 541, 542, 543, 544, 545, 546, 547, 548, 549, 550, 551, 552, 556, 557, 558, 559, 560, 561, 562, 563, 564, 565, 566, 567] (by decide +kernel) (by decide +kernel)
set_option maxRecDepth 20000 in
theorem gL_law_X7_knot : GoodIn wsL_law (wsV RL 56 RX7 yX7_knot wsX7_knot) := goodIn_app (goodIn_of _ (by decide +kernel)) ggL_law_X7_knot
set_option maxRecDepth 20000 in
theorem ggL_law_X7_person : GoodIn wsL_law wsX7_person := goodIn_r _ [234, 21, 235, 97, 98, 20, 99, 84, 221, 222, 2, 223, 224, 225, 226, 236, 237, 238, 239, 91, 56, 104, 105, 541, 542, 543, 544, 545, 546, 547, 548, 549, 550, 551, 552, 556, 557, 558, 559, 560, 561, 562, 563, 564, 565, 566, 567] (by decide +kernel) (by decide +kernel)
set_option maxRecDepth 20000 in
theorem gL_law_X7_person : GoodIn wsL_law (wsV RL 65 RX7 yX7_person wsX7_person) := goodIn_app (goodIn_of _ (by decide +kernel)) ggL_law_X7_person
set_option maxRecDepth 20000 in
theorem ggL_law_X7_may : GoodIn wsL_law wsX7_may := goodIn_r _ [243, 21, 217, 218, 219, 20, 220, 90, 244, 245, 246, 247, 160, 85, 248, 249, 250, 251, 56, 59, 58, 252, 222, 2, 223, 253, 254, 255, 256, 159, 257, 258, 259, 260, 261, 262, 57, 104, 105, 224, 225, 226, 541, 542, 543, 544, 545, 546, 547, 548, 549, 550, 551, 552, 556, 557, 558, 559, 560, 561, 562, 563, 564, 565, 566, 567] (by decide +kernel) (by decide +kernel)
set_option maxRecDepth 20000 in
theorem gL_law_X7_may : GoodIn wsL_law (wsV RL 63 RX7 yX7_may wsX7_may) := goodIn_app (goodIn_of _ (by decide +kernel)) ggL_law_X7_may
set_option maxRecDepth 20000 in
theorem ggL_law_X7_undo : GoodIn wsL_law wsX7_undo := goodIn_r _ [266, 21, 217, 218, 219, 20, 220, 90, 244, 245, 246, 247, 160, 85, 248, 249, 250, 251, 56, 59, 58, 252, 222, 2, 223, 253, 254, 255, 256, 159, 257, 258, 259, 260, 261, 262, 57, 104, 105, 267, 268, 269, 270, 271, 29, 272, 273, 274, 28, 275, 212, 63, 64, 65, 276, 277, 278, 279, 280, 281, 282, 283, 284, 285, 286, 541, 542, 543, 544, 545, 546, 547, 548, 549, 550, 551, 552, 556, 557, 558, 559, 560, 561, 562, 563, 564, 565, 566, 567, 568, 569, 570, 571] (by decide +kernel) (by decide +kernel)
set_option maxRecDepth 20000 in
theorem gL_law_X7_undo : GoodIn wsL_law (wsV RL 68 RX7 yX7_undo wsX7_undo) := goodIn_app (goodIn_of _ (by decide +kernel)) ggL_law_X7_undo
set_option maxRecDepth 20000 in
theorem ggL_law_X7_tie : GoodIn wsL_law wsX7_tie := goodIn_r _ [290, 21, 29, 37, 291, 93, 94, 20, 95, 96, 97, 98, 99, 84, 100, 101, 102, 103, 90, 104, 2, 105, 267, 292, 257, 258, 272, 273, 274, 28, 275, 212, 63, 64, 65, 276, 277, 278, 279, 197, 198, 199, 36, 200, 201, 86, 87, 88, 89, 54, 55, 56, 57, 58, 59, 91, 92, 541, 542, 543, 544, 545, 546, 547, 548, 549, 550, 551, 552, 556, 557, 558, 559, 560, 561, 562, 563, 564, 565, 566, 567, 568, 569, 570, 571, 574, 575] (by decide +kernel) (by decide +kernel)
set_option maxRecDepth 20000 in
theorem gL_law_X7_tie : GoodIn wsL_law (wsV RL 77 RX7 yX7_tie wsX7_tie) := goodIn_app (goodIn_of _ (by decide +kernel)) ggL_law_X7_tie
set_option maxRecDepth 20000 in
theorem ggL_law_X7_pull : GoodIn wsL_law wsX7_pull := goodIn_r _ [296, 21, 217, 218, 219, 20, 220, 90, 267, 104, 2, 105, 227, 228, 229, 230, 91, 57, 222, 223, 221, 297, 298, 299, 300, 59, 292, 257, 258, 268, 269, 270, 271, 29, 272, 273, 274, 28, 275, 212, 63, 64, 65, 276, 277, 278, 279, 280, 281, 282, 283, 284, 285, 286, 541, 542, 543, 544, 545, 546, 547, 548, 549, 550, 551, 552, 556, 557, 558, 559, 560, 561, 562, 563, 564, 565, 566, 567, 568, 569, 570, 571] (by decide +kernel) (by decide +kernel)
set_option maxRecDepth 20000 in
theorem gL_law_X7_pull : GoodIn wsL_law (wsV RL 81 RX7 yX7_pull wsX7_pull) := goodIn_app (goodIn_of _ (by decide +kernel)) ggL_law_X7_pull
set_option maxRecDepth 20000 in
theorem ggL_law_X7_cut : GoodIn wsL_law wsX7_cut := goodIn_r _ [304, 21, 217, 218, 219, 20, 220, 90, 221, 222, 2, 223, 267, 104, 105, 227, 228, 229, 230, 91, 57, 268, 269, 270, 271, 29, 272, 273, 274, 28, 275, 212, 63, 64, 65, 276, 277, 278, 279, 280, 281, 282, 283, 284, 285, 286, 541, 542, 543, 544, 545, 546, 547, 548, 549, 550, 551, 552, 556, 557, 558, 559, 560, 561, 562, 563, 564, 565, 566, 567, 568, 569, 570, 571] (by decide +kernel) (by decide +kernel)
set_option maxRecDepth 20000 in
theorem gL_law_X7_cut : GoodIn wsL_law (wsV RL 71 RX7 yX7_cut wsX7_cut) := goodIn_app (goodIn_of _ (by decide +kernel)) ggL_law_X7_cut
set_option maxRecDepth 20000 in
theorem ggL_law_X7_days : GoodIn wsL_law wsX7_days := goodIn_r _ [308, 21, 29, 272, 273, 274, 28, 275, 212, 63, 64, 65, 276, 277, 278, 279, 541, 542, 543, 544, 545, 546, 547, 548, 549, 550, 551, 552, 556, 557, 558, 559, 560, 561, 562, 563, 564, 565, 566, 567, 568, 569, 570, 571] (by decide +kernel) (by decide +kernel)
set_option maxRecDepth 20000 in
theorem gL_law_X7_days : GoodIn wsL_law (wsV RL 74 RX7 yX7_days wsX7_days) := goodIn_app (goodIn_of _ (by decide +kernel)) ggL_law_X7_days
set_option maxRecDepth 20000 in
theorem ggL_law_X7_loosen : GoodIn wsL_law wsX7_loosen := goodIn_r _ [312, 21, 33, 217, 218, 219, 20, 220, 90, 221, 222, 2, 223, 313, 314, 315, 32, 316, 71, 317, 318, 319, 320, 321, 249, 250, 251, 56, 59, 58, 252, 253, 254, 255, 256, 159, 257, 258, 259, 260, 261, 262, 57, 104, 105, 267, 322, 323, 324, 325, 326, 541, 542, 543, 544, 545, 546, 547, 548, 549, 550, 551, 552, 556, 557, 558, 559, 560, 561, 562, 563, 564, 565, 566, 567, 572, 573] (by decide +kernel) (by decide +kernel)
set_option maxRecDepth 20000 in
theorem gL_law_X7_loosen : GoodIn wsL_law (wsV RL 87 RX7 yX7_loosen wsX7_loosen) := goodIn_app (goodIn_of _ (by decide +kernel)) ggL_law_X7_loosen
set_option maxRecDepth 20000 in
theorem ggL_law_X7_pay : GoodIn wsL_law wsX7_pay := goodIn_r _ [330, 21, 33, 331, 332, 333, 20, 334, 91, 58, 160, 222, 2, 223, 104, 105, 313, 314, 315, 32, 316, 71, 317, 318, 319, 320, 321, 249, 250, 251, 56, 59, 252, 218, 219, 220, 90, 253, 254, 255, 256, 159, 257, 258, 259, 260, 261, 262, 57, 322, 323, 324, 325, 326, 280, 281, 282, 283, 284, 285, 286, 335, 336, 337, 338, 339, 340, 341, 342, 343, 245, 246, 247, 85, 248, 541, 542, 543, 544, 545, 546, 547, 548, 549, 550, 551, 552, 556, 557, 558, 559, 560, 561, 562, 563, 564, 565, 566, 567, 572, 573] (by decide +kernel) (by decide +kernel)
set_option maxRecDepth 20000 in
theorem gL_law_X7_pay : GoodIn wsL_law (wsV RL 92 RX7 yX7_pay wsX7_pay) := goodIn_app (goodIn_of _ (by decide +kernel)) ggL_law_X7_pay
set_option maxRecDepth 20000 in
theorem ggL_law_X7_frees : GoodIn wsL_law wsX7_frees := goodIn_r _ [347, 21, 33, 235, 97, 98, 20, 99, 84, 348, 349, 350, 32, 351, 317, 318, 319, 320, 71, 321, 249, 250, 251, 56, 59, 58, 252, 218, 219, 220, 90, 222, 2, 223, 253, 254, 255, 256, 159, 257, 258, 259, 260, 261, 262, 57, 104, 105, 267, 280, 281, 282, 283, 284, 285, 286, 541, 542, 543, 544, 545, 546, 547, 548, 549, 550, 551, 552, 556, 557, 558, 559, 560, 561, 562, 563, 564, 565, 566, 567, 572, 573] (by decide +kernel) (by decide +kernel)
set_option maxRecDepth 20000 in
theorem gL_law_X7_frees : GoodIn wsL_law (wsV RL 98 RX7 yX7_frees wsX7_frees) := goodIn_app (goodIn_of _ (by decide +kernel)) ggL_law_X7_frees
set_option maxRecDepth 20000 in
theorem ggL_law_X7_fresh : GoodIn wsL_law wsX7_fresh := goodIn_r _ [355, 21, 33, 356, 101, 102, 20, 103, 90, 104, 2, 105, 357, 358, 359, 32, 360, 71, 222, 223, 361, 228, 229, 230, 91, 57, 362, 363, 364, 365, 70, 366, 281, 282, 283, 284, 285, 286, 257, 258, 367, 368, 369, 370, 371, 372, 221, 373, 541, 542, 543, 544, 545, 546, 547, 548, 549, 550, 551, 552, 556, 557, 558, 559, 560, 561, 562, 563, 564, 565, 566, 567, 572, 573] (by decide +kernel) (by decide +kernel)
set_option maxRecDepth 20000 in
theorem gL_law_X7_fresh : GoodIn wsL_law (wsV RL 101 RX7 yX7_fresh wsX7_fresh) := goodIn_app (goodIn_of _ (by decide +kernel)) ggL_law_X7_fresh
set_option maxRecDepth 20000 in
theorem ggL_law_X7_tell : GoodIn wsL_law wsX7_tell := goodIn_r _ [377, 21, 37, 217, 218, 219, 20, 220, 90, 378, 379, 380, 36, 381, 382, 383, 384, 385, 201, 75, 104, 2, 105, 222, 223, 386, 387, 388, 389, 390, 391, 392, 393, 541, 542, 543, 544, 545, 546, 547, 548, 549, 550, 551, 552, 556, 557, 558, 559, 560, 561, 562, 563, 564, 565, 566, 567, 574, 575] (by decide +kernel) (by decide +kernel)
set_option maxRecDepth 20000 in
theorem gL_law_X7_tell : GoodIn wsL_law (wsV RL 111 RX7 yX7_tell wsX7_tell) := goodIn_app (goodIn_of _ (by decide +kernel)) ggL_law_X7_tell
set_option maxRecDepth 20000 in
theorem ggL_law_X7_cross : GoodIn wsL_law wsX7_cross := goodIn_r _ [397, 398, 399, 2, 400, 401, 402, 403, 404, 41, 42, 405, 406, 407, 40, 408, 207, 409, 410, 411, 412, 206, 79, 413, 414, 415, 416, 417, 418, 419, 541, 542, 543, 544, 545, 546, 547, 548, 549, 550, 551, 552, 576, 577, 578] (by decide +kernel) (by decide +kernel)
set_option maxRecDepth 20000 in
theorem gL_law_X7_cross : GoodIn wsL_law (wsV RL 120 RX7 yX7_cross wsX7_cross) := goodIn_app (goodIn_of _ (by decide +kernel)) ggL_law_X7_cross
set_option maxRecDepth 20000 in
theorem ggL_law_X7_smooth : GoodIn wsL_law wsX7_smooth := goodIn_r _ [423, 398, 399, 2, 400, 401, 402, 403, 404, 41, 42, 405, 406, 407, 40, 408, 207, 202, 203, 204, 205, 206, 541, 542, 543, 544, 545, 546, 547, 548, 549, 550, 551, 552, 576, 577, 578] (by decide +kernel) (by decide +kernel)
set_option maxRecDepth 20000 in
theorem gL_law_X7_smooth : GoodIn wsL_law (wsV RL 117 RX7 yX7_smooth wsX7_smooth) := goodIn_app (goodIn_of _ (by decide +kernel)) ggL_law_X7_smooth
set_option maxRecDepth 20000 in
theorem ggL_law_X7_loose : GoodIn wsL_law wsX7_loose := goodIn_r _ [427, 398, 399, 2, 400, 401, 402, 403, 404, 41, 42, 428, 429, 430, 40, 431, 206, 432, 414, 415, 416, 79, 541, 542, 543, 544, 545, 546, 547, 548, 549, 550, 551, 552, 576, 577, 578] (by decide +kernel) (by decide +kernel)
set_option maxRecDepth 20000 in
theorem gL_law_X7_loose : GoodIn wsL_law (wsV RL 135 RX7 yX7_loose wsX7_loose) := goodIn_app (goodIn_of _ (by decide +kernel)) ggL_law_X7_loose
set_option maxRecDepth 20000 in
theorem ggL_law_X7_mark : GoodIn wsL_law wsX7_mark := goodIn_r _ [436, 398, 399, 2, 400, 401, 402, 403, 404, 41, 42, 437, 438, 439, 40, 440, 206, 413, 414, 415, 416, 79, 541, 542, 543, 544, 545, 546, 547, 548, 549, 550, 551, 552, 576, 577, 578] (by decide +kernel) (by decide +kernel)
set_option maxRecDepth 20000 in
theorem gL_law_X7_mark : GoodIn wsL_law (wsV RL 130 RX7 yX7_mark wsX7_mark) := goodIn_app (goodIn_of _ (by decide +kernel)) ggL_law_X7_mark
set_option maxRecDepth 20000 in
theorem ggL_law_X7_year : GoodIn wsL_law wsX7_year := goodIn_r _ [444, 21, 33, 445, 446, 447, 32, 448, 449, 450, 71, 451, 452, 453, 454, 455, 456, 218, 219, 20, 220, 90, 222, 2, 223, 343, 245, 246, 247, 160, 85, 248, 249, 250, 251, 56, 59, 58, 252, 253, 254, 255, 256, 159, 257, 258, 259, 260, 261, 262, 57, 104, 105, 541, 542, 543, 544, 545, 546, 547, 548, 549, 550, 551, 552, 556, 557, 558, 559, 560, 561, 562, 563, 564, 565, 566, 567, 572, 573] (by decide +kernel) (by decide +kernel)
set_option maxRecDepth 20000 in
theorem gL_law_X7_year : GoodIn wsL_law (wsV RL 138 RX7 yX7_year wsX7_year) := goodIn_app (goodIn_of _ (by decide +kernel)) ggL_law_X7_year
set_option maxRecDepth 20000 in
theorem ggL_law_X7_count : GoodIn wsL_law wsX7_count := goodIn_r _ [460, 21, 37, 29, 25, 13, 280, 281, 282, 283, 284, 285, 286, 390, 391, 392, 36, 393, 201, 461, 462, 463, 28, 464, 212, 124, 125, 126, 12, 127, 128, 541, 542, 543, 544, 545, 546, 547, 548, 549, 550, 551, 552, 556, 557, 558, 559, 560, 561, 562, 563, 564, 565, 566, 567, 574, 575, 568, 569, 570, 571, 553, 554] (by decide +kernel) (by decide +kernel)
set_option maxRecDepth 20000 in
theorem gL_law_X7_count : GoodIn wsL_law (wsV RL 49 RX7 yX7_count wsX7_count) := goodIn_app (goodIn_of _ (by decide +kernel)) ggL_law_X7_count
theorem ga_head : GoodIn wsL_law [Cond.code yL_act cL_act 6 (some .long)] := goodIn_r _ [467] (by decide +kernel) (by decide +kernel)
set_option maxRecDepth 20000 in
theorem ga_wsL_act_r1 : GoodIn wsL_law wsL_act_r1 := goodIn_r _ [468, 469, 470, 471, 116, 117, 108, 118, 119, 263, 264, 265, 2, 266, 21, 217, 218, 219, 20, 220, 90, 244, 245, 246] (by decide +kernel) (by decide +kernel)
set_option maxRecDepth 20000 in
theorem ga_wsL_act_r2 : GoodIn wsL_law wsL_act_r2 := goodIn_r _ [247, 160, 85, 248, 249, 250, 251, 56, 59, 58, 252, 222, 223, 253, 254, 255, 256, 159, 257, 258, 259, 260, 261, 262] (by decide +kernel) (by decide +kernel)
set_option maxRecDepth 20000 in
theorem ga_wsL_act_r3 : GoodIn wsL_law wsL_act_r3 := goodIn_r _ [57, 104, 105, 267, 268, 269, 270, 271, 29, 272, 273, 274, 28, 275, 212, 63, 64, 65, 276, 277, 278, 279, 280, 281] (by decide +kernel) (by decide +kernel)
set_option maxRecDepth 20000 in
theorem ga_wsL_act_r4 : GoodIn wsL_law wsL_act_r4 := goodIn_r _ [282, 283, 284, 285, 286, 287, 288, 289, 290, 37, 291, 93, 94, 95, 96, 97, 98, 99, 84, 100, 101, 102, 103, 292] (by decide +kernel) (by decide +kernel)
set_option maxRecDepth 20000 in
theorem ga_wsL_act_r5 : GoodIn wsL_law wsL_act_r5 := goodIn_r _ [197, 198, 199, 36, 200, 201, 86, 87, 88, 89, 54, 55, 91, 92, 293, 294, 295, 296, 227, 228, 229, 230, 221, 297] (by decide +kernel) (by decide +kernel)
set_option maxRecDepth 20000 in
theorem ga_wsL_act_r6 : GoodIn wsL_law wsL_act_r6 := goodIn_r _ [298, 299, 300, 301, 302, 303, 304, 305, 306, 307, 308, 472, 473, 474, 475, 461, 462, 463, 464, 476, 477, 478, 479, 309] (by decide +kernel) (by decide +kernel)
set_option maxRecDepth 20000 in
theorem ga_wsL_act_r7 : GoodIn wsL_law wsL_act_r7 := goodIn_r _ [310, 311, 312, 33, 313, 314, 315, 32, 316, 71, 317, 318, 319, 320, 321, 322, 323, 324, 325, 326, 327, 328, 329, 330] (by decide +kernel) (by decide +kernel)
set_option maxRecDepth 20000 in
theorem ga_wsL_act_r8 : GoodIn wsL_law wsL_act_r8 := goodIn_r _ [331, 332, 333, 334, 335, 336, 337, 338, 339, 340, 341, 342, 343, 480, 481, 482, 483, 348, 349, 350, 351, 344, 345, 346] (by decide +kernel) (by decide +kernel)
set_option maxRecDepth 20000 in
theorem ga_wsL_act_r9 : GoodIn wsL_law wsL_act_r9 := goodIn_r _ [347, 235, 352, 353, 354, 355, 356, 357, 358, 359, 360, 361, 362, 363, 364, 365, 70, 366, 367, 368, 369, 370, 371, 372] (by decide +kernel) (by decide +kernel)
set_option maxRecDepth 20000 in
theorem ga_wsL_act_r10 : GoodIn wsL_law wsL_act_r10 := goodIn_r _ [373, 484, 485, 486, 487, 488, 489, 490, 491, 492, 493, 494, 495, 496, 497, 498, 499, 390, 391, 392, 393, 374, 375, 376] (by decide +kernel) (by decide +kernel)
set_option maxRecDepth 20000 in
theorem ga_wsL_act_r11 : GoodIn wsL_law wsL_act_r11 := goodIn_r _ [377, 378, 379, 380, 381, 382, 383, 384, 385, 75, 386, 387, 388, 389, 500, 501, 502, 503, 504, 505, 506, 507, 508, 420] (by decide +kernel) (by decide +kernel)
set_option maxRecDepth 20000 in
theorem ga_wsL_act_r12 : GoodIn wsL_law wsL_act_r12 := goodIn_r _ [421, 422, 423, 398, 399, 400, 401, 402, 403, 404, 41, 42, 405, 406, 407, 40, 408, 207, 202, 203, 204, 205, 206, 394] (by decide +kernel) (by decide +kernel)
set_option maxRecDepth 20000 in
theorem ga_wsL_act_r13 : GoodIn wsL_law wsL_act_r13 := goodIn_r _ [395, 396, 397, 409, 410, 411, 412, 79, 413, 414, 415, 416, 417, 418, 419, 509, 510, 511, 512, 513, 514, 515, 516, 517] (by decide +kernel) (by decide +kernel)
set_option maxRecDepth 20000 in
theorem ga_wsL_act_r14 : GoodIn wsL_law wsL_act_r14 := goodIn_r _ [518, 519, 520, 521, 522, 523, 524, 525, 526, 527, 528, 224, 225, 226, 433, 434, 435, 436, 437, 438, 439, 440, 424, 425] (by decide +kernel) (by decide +kernel)
set_option maxRecDepth 20000 in
theorem ga_wsL_act_r15 : GoodIn wsL_law wsL_act_r15 := goodIn_r _ [426, 427, 428, 429, 430, 431, 432, 441, 442, 443, 444, 445, 446, 447, 448, 449, 450, 451, 452, 453, 454, 455, 456, 529] (by decide +kernel) (by decide +kernel)
set_option maxRecDepth 20000 in
theorem ga_wsL_act_r16 : GoodIn wsL_law wsL_act_r16 := goodIn_r _ [530, 531, 532, 25, 533, 534, 535, 536, 23, 24, 193, 194, 195, 196, 537, 538, 539, 540, 208, 209, 210, 211] (by decide +kernel) (by decide +kernel)
set_option maxRecDepth 20000 in
theorem ga_wsX70 : GoodIn wsL_law wsX70 := goodIn_r _ [541, 542, 543, 544, 545, 546, 547, 548, 549, 550, 551, 552] (by decide +kernel) (by decide +kernel)
set_option maxRecDepth 20000 in
theorem ga_wsX60 : GoodIn wsL_law wsX60 := goodIn_r _ [556, 557, 558, 559, 560, 561, 562, 563, 564, 565, 566, 567] (by decide +kernel) (by decide +kernel)
set_option maxRecDepth 20000 in
theorem ga_wsX10 : GoodIn wsL_law wsX10 := goodIn_r _ [568, 569, 570, 571] (by decide +kernel) (by decide +kernel)
set_option maxRecDepth 20000 in
theorem ga_wsX40 : GoodIn wsL_law wsX40 := goodIn_r _ [574, 575] (by decide +kernel) (by decide +kernel)
set_option maxRecDepth 20000 in
theorem ga_wsX00 : GoodIn wsL_law wsX00 := goodIn_r _ [572, 573] (by decide +kernel) (by decide +kernel)
set_option maxRecDepth 20000 in
theorem ga_wsX30 : GoodIn wsL_law wsX30 := goodIn_r _ [576, 577, 578] (by decide +kernel) (by decide +kernel)
theorem ggL_law_L_act : GoodIn wsL_law wsL_act := goodIn_app (a := [Cond.code yL_act cL_act 6 (some .long)]) ga_head (goodIn_app (goodIn_app (goodIn_app (goodIn_app (goodIn_app (goodIn_app (goodIn_app ga_wsL_act_r1 (goodIn_app ga_wsL_act_r2 (goodIn_app ga_wsL_act_r3 (goodIn_app ga_wsL_act_r4 (goodIn_app ga_wsL_act_r5 (goodIn_app ga_wsL_act_r6 (goodIn_app ga_wsL_act_r7 (goodIn_app ga_wsL_act_r8 (goodIn_app ga_wsL_act_r9 (goodIn_app ga_wsL_act_r10 (goodIn_app ga_wsL_act_r11 (goodIn_app ga_wsL_act_r12 (goodIn_app ga_wsL_act_r13 (goodIn_app ga_wsL_act_r14 (goodIn_app ga_wsL_act_r15 ga_wsL_act_r16))))))))))))))) ga_wsX70) ga_wsX60) ga_wsX10) ga_wsX40) ga_wsX00) ga_wsX30)
set_option maxRecDepth 20000 in
theorem gL_law_L_act : GoodIn wsL_law (va_wsS RL 152 yL_act wsL_act) := goodIn_app (goodIn_of _ (by decide +kernel)) ggL_law_L_act
set_option maxRecDepth 20000 in
theorem ggL_law_X7_forEver : GoodIn wsL_law wsX7_forEver := goodIn_r _ [483, 33, 21, 348, 349, 350, 32, 351, 317, 318, 319, 320, 71, 321, 249, 250, 20, 251, 56, 59, 58, 252, 218, 219, 220, 90, 222, 2, 223, 253, 254, 255, 256, 159, 257, 258, 259, 260, 261, 262, 57, 104, 105, 541, 542, 543, 544, 545, 546, 547, 548, 549, 550, 551, 552, 556, 557, 558, 559, 560, 561, 562, 563, 564, 565, 566, 567, 572, 573] (by decide +kernel) (by decide +kernel)
set_option maxRecDepth 20000 in
theorem gL_law_X7_forEver : GoodIn wsL_law (wsV RL 95 RX7 yX7_forEver wsX7_forEver) := goodIn_app (goodIn_of _ (by decide +kernel)) ggL_law_X7_forEver
set_option maxRecDepth 20000 in
theorem ggL_law_X7_alike : GoodIn wsL_law wsX7_alike := goodIn_r _ [512, 41, 42, 513, 514, 515, 40, 516, 206, 517, 518, 519, 520, 413, 414, 415, 416, 79, 521, 522, 523, 524, 525, 526, 527, 528, 417, 418, 419, 224, 225, 2, 226, 541, 542, 543, 544, 545, 546, 547, 548, 549, 550, 551, 552, 576, 577, 578] (by decide +kernel) (by decide +kernel)
set_option maxRecDepth 20000 in
theorem gL_law_X7_alike : GoodIn wsL_law (wsV RL 125 RX7 yX7_alike wsX7_alike) := goodIn_app (goodIn_of _ (by decide +kernel)) ggL_law_X7_alike
set_option maxRecDepth 20000 in
theorem ggL_law_X7_judge : GoodIn wsL_law wsX7_judge := goodIn_r _ [503, 37, 21, 504, 505, 506, 36, 507, 201, 75, 508, 218, 219, 20, 220, 90, 382, 383, 384, 385, 104, 2, 105, 541, 542, 543, 544, 545, 546, 547, 548, 549, 550, 551, 552, 574, 575, 556, 557, 558, 559, 560, 561, 562, 563, 564, 565, 566, 567] (by decide +kernel) (by decide +kernel)
set_option maxRecDepth 20000 in
theorem gL_law_X7_judge : GoodIn wsL_law (wsV RL 114 RX7 yX7_judge wsX7_judge) := goodIn_app (goodIn_of _ (by decide +kernel)) ggL_law_X7_judge
theorem dL_law_0 : decode cL_law 0 = .ok (.new 11, 3) := by decide +kernel
theorem dL_law_3 : decode cL_law 3 = .ok (.dup, 1) := by decide +kernel
theorem dL_law_4 : decode cL_law 4 = .ok (.invokespecial 147, 3) := by decide +kernel
theorem dL_law_7 : decode cL_law 7 = .ok (.astore_n 1, 1) := by decide +kernel
theorem dL_law_8 : decode cL_law 8 = .ok (.new 11, 3) := by decide +kernel
theorem dL_law_11 : decode cL_law 11 = .ok (.dup, 1) := by decide +kernel
theorem dL_law_12 : decode cL_law 12 = .ok (.invokespecial 147, 3) := by decide +kernel
theorem dL_law_15 : decode cL_law 15 = .ok (.astore_n 2, 1) := by decide +kernel
theorem dL_law_16 : decode cL_law 16 = .ok (.bipush 46, 2) := by decide +kernel
theorem dL_law_18 : decode cL_law 18 = .ok (.newarray .int, 2) := by decide +kernel
theorem dL_law_20 : decode cL_law 20 = .ok (.astore_n 3, 1) := by decide +kernel
theorem dL_law_21 : decode cL_law 21 = .ok (.bipush 46, 2) := by decide +kernel
theorem dL_law_23 : decode cL_law 23 = .ok (.newarray .int, 2) := by decide +kernel
theorem dL_law_25 : decode cL_law 25 = .ok (.astore 4, 2) := by decide +kernel
theorem dL_law_27 : decode cL_law 27 = .ok (.aload_n 1, 1) := by decide +kernel
theorem dL_law_28 : decode cL_law 28 = .ok (.aload_n 0, 1) := by decide +kernel
theorem dL_law_29 : decode cL_law 29 = .ok (.iconst 0, 1) := by decide +kernel
theorem dL_law_30 : decode cL_law 30 = .ok (.aload_n 3, 1) := by decide +kernel
theorem dL_law_31 : decode cL_law 31 = .ok (.invokestatic 148, 3) := by decide +kernel
theorem dL_law_34 : decode cL_law 34 = .ok (.ifCond .eq 14, 3) := by decide +kernel
theorem dL_law_37 : decode cL_law 37 = .ok (.aload_n 2, 1) := by decide +kernel
theorem dL_law_38 : decode cL_law 38 = .ok (.aload_n 0, 1) := by decide +kernel
theorem dL_law_39 : decode cL_law 39 = .ok (.iconst 0, 1) := by decide +kernel
theorem dL_law_40 : decode cL_law 40 = .ok (.aload 4, 2) := by decide +kernel
theorem dL_law_42 : decode cL_law 42 = .ok (.invokestatic 148, 3) := by decide +kernel
theorem dL_law_45 : decode cL_law 45 = .ok (.ifCond .ne 5, 3) := by decide +kernel
theorem dL_law_48 : decode cL_law 48 = .ok (.iconst 0, 1) := by decide +kernel
theorem dL_law_49 : decode cL_law 49 = .ok (.ireturn, 1) := by decide +kernel
theorem dL_law_50 : decode cL_law 50 = .ok (.iconst 0, 1) := by decide +kernel
theorem dL_law_51 : decode cL_law 51 = .ok (.istore 5, 2) := by decide +kernel
theorem dL_law_53 : decode cL_law 53 = .ok (.iload 5, 2) := by decide +kernel
theorem dL_law_55 : decode cL_law 55 = .ok (.bipush 40, 2) := by decide +kernel
theorem dL_law_57 : decode cL_law 57 = .ok (.if_icmp .ge 539, 3) := by decide +kernel
theorem dL_law_60 : decode cL_law 60 = .ok (.aload_n 0, 1) := by decide +kernel
theorem dL_law_61 : decode cL_law 61 = .ok (.bipush 9, 2) := by decide +kernel
theorem dL_law_63 : decode cL_law 63 = .ok (.iconst 2, 1) := by decide +kernel
theorem dL_law_64 : decode cL_law 64 = .ok (.iload 5, 2) := by decide +kernel
theorem dL_law_66 : decode cL_law 66 = .ok (.imul, 1) := by decide +kernel
theorem dL_law_67 : decode cL_law 67 = .ok (.iadd, 1) := by decide +kernel
theorem dL_law_68 : decode cL_law 68 = .ok (.invokestatic 22, 3) := by decide +kernel
theorem dL_law_71 : decode cL_law 71 = .ok (.istore 6, 2) := by decide +kernel
theorem dL_law_73 : decode cL_law 73 = .ok (.aload_n 0, 1) := by decide +kernel
theorem dL_law_74 : decode cL_law 74 = .ok (.bipush 10, 2) := by decide +kernel
theorem dL_law_76 : decode cL_law 76 = .ok (.iconst 2, 1) := by decide +kernel
theorem dL_law_77 : decode cL_law 77 = .ok (.iload 5, 2) := by decide +kernel
theorem dL_law_79 : decode cL_law 79 = .ok (.imul, 1) := by decide +kernel
theorem dL_law_80 : decode cL_law 80 = .ok (.iadd, 1) := by decide +kernel
theorem dL_law_81 : decode cL_law 81 = .ok (.invokestatic 22, 3) := by decide +kernel
theorem dL_law_84 : decode cL_law 84 = .ok (.istore 7, 2) := by decide +kernel
theorem dL_law_86 : decode cL_law 86 = .ok (.aload_n 2, 1) := by decide +kernel
theorem dL_law_87 : decode cL_law 87 = .ok (.bipush 9, 2) := by decide +kernel
theorem dL_law_89 : decode cL_law 89 = .ok (.lconst 0, 1) := by decide +kernel
theorem dL_law_90 : decode cL_law 90 = .ok (.invokevirtual 10, 3) := by decide +kernel
theorem dL_law_93 : decode cL_law 93 = .ok (.iconst (-1), 1) := by decide +kernel
theorem dL_law_94 : decode cL_law 94 = .ok (.if_icmp .ne 203, 3) := by decide +kernel
theorem dL_law_97 : decode cL_law 97 = .ok (.aload_n 2, 1) := by decide +kernel
theorem dL_law_98 : decode cL_law 98 = .ok (.bipush 8, 2) := by decide +kernel
theorem dL_law_100 : decode cL_law 100 = .ok (.iconst 0, 1) := by decide +kernel
theorem dL_law_101 : decode cL_law 101 = .ok (.invokevirtual 56, 3) := by decide +kernel
theorem dL_law_104 : decode cL_law 104 = .ok (.iconst (-1), 1) := by decide +kernel
theorem dL_law_105 : decode cL_law 105 = .ok (.if_icmp .ne 192, 3) := by decide +kernel
theorem dL_law_108 : decode cL_law 108 = .ok (.aload_n 2, 1) := by decide +kernel
theorem dL_law_109 : decode cL_law 109 = .ok (.bipush 6, 2) := by decide +kernel
theorem dL_law_111 : decode cL_law 111 = .ok (.iconst 0, 1) := by decide +kernel
theorem dL_law_112 : decode cL_law 112 = .ok (.invokevirtual 65, 3) := by decide +kernel
theorem dL_law_115 : decode cL_law 115 = .ok (.iconst (-1), 1) := by decide +kernel
theorem dL_law_116 : decode cL_law 116 = .ok (.if_icmp .ne 181, 3) := by decide +kernel
theorem dL_law_119 : decode cL_law 119 = .ok (.aload_n 2, 1) := by decide +kernel
theorem dL_law_120 : decode cL_law 120 = .ok (.bipush 8, 2) := by decide +kernel
theorem dL_law_122 : decode cL_law 122 = .ok (.invokevirtual 63, 3) := by decide +kernel
theorem dL_law_125 : decode cL_law 125 = .ok (.iconst (-1), 1) := by decide +kernel
theorem dL_law_126 : decode cL_law 126 = .ok (.if_icmp .ne 171, 3) := by decide +kernel
theorem dL_law_129 : decode cL_law 129 = .ok (.aload_n 2, 1) := by decide +kernel
theorem dL_law_130 : decode cL_law 130 = .ok (.bipush 8, 2) := by decide +kernel
theorem dL_law_132 : decode cL_law 132 = .ok (.invokevirtual 68, 3) := by decide +kernel
theorem dL_law_135 : decode cL_law 135 = .ok (.iconst (-1), 1) := by decide +kernel
theorem dL_law_136 : decode cL_law 136 = .ok (.if_icmp .ne 161, 3) := by decide +kernel
theorem dL_law_139 : decode cL_law 139 = .ok (.aload_n 2, 1) := by decide +kernel
theorem dL_law_140 : decode cL_law 140 = .ok (.iconst 0, 1) := by decide +kernel
theorem dL_law_141 : decode cL_law 141 = .ok (.iconst 0, 1) := by decide +kernel
theorem dL_law_142 : decode cL_law 142 = .ok (.iconst 0, 1) := by decide +kernel
theorem dL_law_143 : decode cL_law 143 = .ok (.iconst 0, 1) := by decide +kernel
theorem dL_law_144 : decode cL_law 144 = .ok (.iconst 0, 1) := by decide +kernel
theorem dL_law_145 : decode cL_law 145 = .ok (.invokevirtual 77, 3) := by decide +kernel
theorem dL_law_148 : decode cL_law 148 = .ok (.iconst (-1), 1) := by decide +kernel
theorem dL_law_149 : decode cL_law 149 = .ok (.if_icmp .ne 148, 3) := by decide +kernel
theorem dL_law_152 : decode cL_law 152 = .ok (.aload_n 2, 1) := by decide +kernel
theorem dL_law_153 : decode cL_law 153 = .ok (.bipush 8, 2) := by decide +kernel
theorem dL_law_155 : decode cL_law 155 = .ok (.invokevirtual 81, 3) := by decide +kernel
theorem dL_law_158 : decode cL_law 158 = .ok (.iconst (-1), 1) := by decide +kernel
theorem dL_law_159 : decode cL_law 159 = .ok (.if_icmp .ne 138, 3) := by decide +kernel
theorem dL_law_162 : decode cL_law 162 = .ok (.aload_n 2, 1) := by decide +kernel
theorem dL_law_163 : decode cL_law 163 = .ok (.iconst (-1), 1) := by decide +kernel
