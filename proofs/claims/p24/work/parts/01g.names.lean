theorem dL_act_221 : decode cL_act 221 = .ok (.iload 7, 2) := by decide +kernel
theorem dL_act_223 : decode cL_act 223 = .ok (.iadd, 1) := by decide +kernel
theorem dL_act_224 : decode cL_act 224 = .ok (.iload 10, 2) := by decide +kernel
theorem dL_act_226 : decode cL_act 226 = .ok (.isub, 1) := by decide +kernel
theorem dL_act_227 : decode cL_act 227 = .ok (.if_icmp .ne 16, 3) := by decide +kernel
theorem dL_act_230 : decode cL_act 230 = .ok (.aload_n 0, 1) := by decide +kernel
theorem dL_act_231 : decode cL_act 231 = .ok (.bipush 13, 2) := by decide +kernel
theorem dL_act_233 : decode cL_act 233 = .ok (.invokevirtual 13, 3) := by decide +kernel
theorem dL_act_236 : decode cL_act 236 = .ok (.ifCond .ne 7, 3) := by decide +kernel
theorem dL_act_239 : decode cL_act 239 = .ok (.iconst 1, 1) := by decide +kernel
theorem dL_act_240 : decode cL_act 240 = .ok (.goto 5, 3) := by decide +kernel
theorem dL_act_243 : decode cL_act 243 = .ok (.bipush (-9), 2) := by decide +kernel
theorem dL_act_245 : decode cL_act 245 = .ok (.ireturn, 1) := by decide +kernel
theorem dL_act_246 : decode cL_act 246 = .ok (.iload_n 3, 1) := by decide +kernel
theorem dL_act_247 : decode cL_act 247 = .ok (.bipush 6, 2) := by decide +kernel
theorem dL_act_249 : decode cL_act 249 = .ok (.if_icmp .ne 94, 3) := by decide +kernel
theorem dL_act_252 : decode cL_act 252 = .ok (.iload 4, 2) := by decide +kernel
theorem dL_act_254 : decode cL_act 254 = .ok (.ifCond .ne 7, 3) := by decide +kernel
theorem dL_act_257 : decode cL_act 257 = .ok (.iconst 0, 1) := by decide +kernel
theorem dL_act_258 : decode cL_act 258 = .ok (.goto 10, 3) := by decide +kernel
theorem dL_act_261 : decode cL_act 261 = .ok (.aload_n 0, 1) := by decide +kernel
theorem dL_act_262 : decode cL_act 262 = .ok (.iload 6, 2) := by decide +kernel
theorem dL_act_264 : decode cL_act 264 = .ok (.iconst 0, 1) := by decide +kernel
theorem dL_act_265 : decode cL_act 265 = .ok (.invokevirtual 19, 3) := by decide +kernel
theorem dL_act_268 : decode cL_act 268 = .ok (.istore 7, 2) := by decide +kernel
theorem dL_act_270 : decode cL_act 270 = .ok (.aload_n 0, 1) := by decide +kernel
theorem dL_act_271 : decode cL_act 271 = .ok (.iload 6, 2) := by decide +kernel
theorem dL_act_273 : decode cL_act 273 = .ok (.iconst 1, 1) := by decide +kernel
theorem dL_act_274 : decode cL_act 274 = .ok (.iload_n 2, 1) := by decide +kernel
theorem dL_act_275 : decode cL_act 275 = .ok (.iconst 3, 1) := by decide +kernel
theorem dL_act_276 : decode cL_act 276 = .ok (.idiv, 1) := by decide +kernel
theorem dL_act_277 : decode cL_act 277 = .ok (.bipush 40, 2) := by decide +kernel
theorem dL_act_279 : decode cL_act 279 = .ok (.irem, 1) := by decide +kernel
theorem dL_act_280 : decode cL_act 280 = .ok (.iadd, 1) := by decide +kernel
theorem dL_act_281 : decode cL_act 281 = .ok (.invokevirtual 31, 3) := by decide +kernel
theorem dL_act_284 : decode cL_act 284 = .ok (.istore 8, 2) := by decide +kernel
theorem dL_act_286 : decode cL_act 286 = .ok (.iload 4, 2) := by decide +kernel
theorem dL_act_288 : decode cL_act 288 = .ok (.ifCond .ne 18, 3) := by decide +kernel
theorem dL_act_291 : decode cL_act 291 = .ok (.iload 8, 2) := by decide +kernel
theorem dL_act_293 : decode cL_act 293 = .ok (.iconst (-1), 1) := by decide +kernel
theorem dL_act_294 : decode cL_act 294 = .ok (.if_icmp .ne 7, 3) := by decide +kernel
theorem dL_act_297 : decode cL_act 297 = .ok (.iconst 0, 1) := by decide +kernel
theorem dL_act_298 : decode cL_act 298 = .ok (.goto 44, 3) := by decide +kernel
theorem dL_act_301 : decode cL_act 301 = .ok (.bipush (-9), 2) := by decide +kernel
theorem dL_act_303 : decode cL_act 303 = .ok (.goto 39, 3) := by decide +kernel
theorem dL_act_306 : decode cL_act 306 = .ok (.iload 8, 2) := by decide +kernel
theorem dL_act_308 : decode cL_act 308 = .ok (.iload 7, 2) := by decide +kernel
theorem dL_act_310 : decode cL_act 310 = .ok (.if_icmp .ne 30, 3) := by decide +kernel
theorem dL_act_313 : decode cL_act 313 = .ok (.aload_n 0, 1) := by decide +kernel
theorem dL_act_314 : decode cL_act 314 = .ok (.bipush 6, 2) := by decide +kernel
theorem dL_act_316 : decode cL_act 316 = .ok (.invokevirtual 13, 3) := by decide +kernel
theorem dL_act_319 : decode cL_act 319 = .ok (.iload 5, 2) := by decide +kernel
theorem dL_act_321 : decode cL_act 321 = .ok (.iload 7, 2) := by decide +kernel
theorem dL_act_323 : decode cL_act 323 = .ok (.isub, 1) := by decide +kernel
theorem dL_act_324 : decode cL_act 324 = .ok (.iconst 1, 1) := by decide +kernel
theorem dL_act_325 : decode cL_act 325 = .ok (.iadd, 1) := by decide +kernel
theorem dL_act_326 : decode cL_act 326 = .ok (.iload_n 2, 1) := by decide +kernel
theorem dL_act_327 : decode cL_act 327 = .ok (.iconst 3, 1) := by decide +kernel
theorem dL_act_328 : decode cL_act 328 = .ok (.idiv, 1) := by decide +kernel
theorem dL_act_329 : decode cL_act 329 = .ok (.bipush 40, 2) := by decide +kernel
theorem dL_act_331 : decode cL_act 331 = .ok (.irem, 1) := by decide +kernel
theorem dL_act_332 : decode cL_act 332 = .ok (.iadd, 1) := by decide +kernel
theorem dL_act_333 : decode cL_act 333 = .ok (.if_icmp .ne 7, 3) := by decide +kernel
theorem dL_act_336 : decode cL_act 336 = .ok (.iconst 1, 1) := by decide +kernel
theorem dL_act_337 : decode cL_act 337 = .ok (.goto 5, 3) := by decide +kernel
theorem dL_act_340 : decode cL_act 340 = .ok (.bipush (-9), 2) := by decide +kernel
theorem dL_act_342 : decode cL_act 342 = .ok (.ireturn, 1) := by decide +kernel
theorem dL_act_343 : decode cL_act 343 = .ok (.iload_n 3, 1) := by decide +kernel
theorem dL_act_344 : decode cL_act 344 = .ok (.bipush 7, 2) := by decide +kernel
theorem dL_act_346 : decode cL_act 346 = .ok (.if_icmp .ne 89, 3) := by decide +kernel
theorem dL_act_349 : decode cL_act 349 = .ok (.iload 4, 2) := by decide +kernel
theorem dL_act_351 : decode cL_act 351 = .ok (.ifCond .ne 7, 3) := by decide +kernel
theorem dL_act_354 : decode cL_act 354 = .ok (.iconst 0, 1) := by decide +kernel
theorem dL_act_355 : decode cL_act 355 = .ok (.goto 10, 3) := by decide +kernel
theorem dL_act_358 : decode cL_act 358 = .ok (.aload_n 0, 1) := by decide +kernel
theorem dL_act_359 : decode cL_act 359 = .ok (.iload 6, 2) := by decide +kernel
theorem dL_act_361 : decode cL_act 361 = .ok (.iconst 0, 1) := by decide +kernel
theorem dL_act_362 : decode cL_act 362 = .ok (.invokevirtual 19, 3) := by decide +kernel
theorem dL_act_365 : decode cL_act 365 = .ok (.istore 7, 2) := by decide +kernel
theorem dL_act_367 : decode cL_act 367 = .ok (.aload_n 0, 1) := by decide +kernel
theorem dL_act_368 : decode cL_act 368 = .ok (.iload 6, 2) := by decide +kernel
theorem dL_act_370 : decode cL_act 370 = .ok (.invokevirtual 34, 3) := by decide +kernel
theorem dL_act_373 : decode cL_act 373 = .ok (.istore 8, 2) := by decide +kernel
theorem dL_act_375 : decode cL_act 375 = .ok (.iload 4, 2) := by decide +kernel
theorem dL_act_377 : decode cL_act 377 = .ok (.ifCond .ne 18, 3) := by decide +kernel
theorem dL_act_380 : decode cL_act 380 = .ok (.iload 8, 2) := by decide +kernel
theorem dL_act_382 : decode cL_act 382 = .ok (.iconst (-1), 1) := by decide +kernel
theorem dL_act_383 : decode cL_act 383 = .ok (.if_icmp .ne 7, 3) := by decide +kernel
theorem dL_act_386 : decode cL_act 386 = .ok (.iconst 0, 1) := by decide +kernel
theorem dL_act_387 : decode cL_act 387 = .ok (.goto 47, 3) := by decide +kernel
theorem dL_act_390 : decode cL_act 390 = .ok (.bipush (-9), 2) := by decide +kernel
theorem dL_act_392 : decode cL_act 392 = .ok (.goto 42, 3) := by decide +kernel
theorem dL_act_395 : decode cL_act 395 = .ok (.iload 8, 2) := by decide +kernel
theorem dL_act_397 : decode cL_act 397 = .ok (.iload 7, 2) := by decide +kernel
theorem dL_act_399 : decode cL_act 399 = .ok (.if_icmp .ne 33, 3) := by decide +kernel
theorem dL_act_402 : decode cL_act 402 = .ok (.aload_n 0, 1) := by decide +kernel
theorem dL_act_403 : decode cL_act 403 = .ok (.iconst 3, 1) := by decide +kernel
theorem dL_act_404 : decode cL_act 404 = .ok (.invokevirtual 13, 3) := by decide +kernel
theorem dL_act_407 : decode cL_act 407 = .ok (.iload 4, 2) := by decide +kernel
theorem dL_act_409 : decode cL_act 409 = .ok (.iconst 1, 1) := by decide +kernel
theorem dL_act_410 : decode cL_act 410 = .ok (.isub, 1) := by decide +kernel
theorem dL_act_411 : decode cL_act 411 = .ok (.if_icmp .ne 21, 3) := by decide +kernel
theorem dL_act_414 : decode cL_act 414 = .ok (.aload_n 0, 1) := by decide +kernel
theorem dL_act_415 : decode cL_act 415 = .ok (.bipush 6, 2) := by decide +kernel
theorem dL_act_417 : decode cL_act 417 = .ok (.invokevirtual 13, 3) := by decide +kernel
theorem dL_act_420 : decode cL_act 420 = .ok (.iload 5, 2) := by decide +kernel
theorem dL_act_422 : decode cL_act 422 = .ok (.iload 7, 2) := by decide +kernel
theorem dL_act_424 : decode cL_act 424 = .ok (.isub, 1) := by decide +kernel
theorem dL_act_425 : decode cL_act 425 = .ok (.if_icmp .ne 7, 3) := by decide +kernel
theorem dL_act_428 : decode cL_act 428 = .ok (.iconst 1, 1) := by decide +kernel
theorem dL_act_429 : decode cL_act 429 = .ok (.goto 5, 3) := by decide +kernel
theorem dL_act_432 : decode cL_act 432 = .ok (.bipush (-9), 2) := by decide +kernel
theorem dL_act_434 : decode cL_act 434 = .ok (.ireturn, 1) := by decide +kernel
theorem dL_act_435 : decode cL_act 435 = .ok (.iload_n 3, 1) := by decide +kernel
theorem dL_act_436 : decode cL_act 436 = .ok (.bipush 8, 2) := by decide +kernel
theorem dL_act_438 : decode cL_act 438 = .ok (.if_icmp .ne 127, 3) := by decide +kernel
theorem dL_act_441 : decode cL_act 441 = .ok (.iload 6, 2) := by decide +kernel
theorem dL_act_443 : decode cL_act 443 = .ok (.iconst 1, 1) := by decide +kernel
theorem dL_act_444 : decode cL_act 444 = .ok (.iadd, 1) := by decide +kernel
theorem dL_act_445 : decode cL_act 445 = .ok (.iload 4, 2) := by decide +kernel
theorem dL_act_447 : decode cL_act 447 = .ok (.if_icmp .ge 23, 3) := by decide +kernel
theorem dL_act_450 : decode cL_act 450 = .ok (.aload_n 0, 1) := by decide +kernel
theorem dL_act_451 : decode cL_act 451 = .ok (.iload 6, 2) := by decide +kernel
theorem dL_act_453 : decode cL_act 453 = .ok (.iconst 0, 1) := by decide +kernel
theorem dL_act_454 : decode cL_act 454 = .ok (.invokevirtual 19, 3) := by decide +kernel
theorem dL_act_457 : decode cL_act 457 = .ok (.aload_n 0, 1) := by decide +kernel
theorem dL_act_458 : decode cL_act 458 = .ok (.iload 6, 2) := by decide +kernel
theorem dL_act_460 : decode cL_act 460 = .ok (.iconst 1, 1) := by decide +kernel
theorem dL_act_461 : decode cL_act 461 = .ok (.iadd, 1) := by decide +kernel
theorem dL_act_462 : decode cL_act 462 = .ok (.iconst 0, 1) := by decide +kernel
theorem dL_act_463 : decode cL_act 463 = .ok (.invokevirtual 19, 3) := by decide +kernel
theorem dL_act_466 : decode cL_act 466 = .ok (.iadd, 1) := by decide +kernel
theorem dL_act_467 : decode cL_act 467 = .ok (.goto 4, 3) := by decide +kernel
theorem dL_act_470 : decode cL_act 470 = .ok (.iconst 0, 1) := by decide +kernel
theorem dL_act_471 : decode cL_act 471 = .ok (.istore 7, 2) := by decide +kernel
theorem dL_act_473 : decode cL_act 473 = .ok (.aload_n 0, 1) := by decide +kernel
theorem dL_act_474 : decode cL_act 474 = .ok (.iload 6, 2) := by decide +kernel
theorem dL_act_476 : decode cL_act 476 = .ok (.invokevirtual 37, 3) := by decide +kernel
theorem dL_act_479 : decode cL_act 479 = .ok (.istore 8, 2) := by decide +kernel
theorem dL_act_481 : decode cL_act 481 = .ok (.iload 7, 2) := by decide +kernel
theorem dL_act_483 : decode cL_act 483 = .ok (.ifCond .eq 10, 3) := by decide +kernel
theorem dL_act_486 : decode cL_act 486 = .ok (.iload 7, 2) := by decide +kernel
theorem dL_act_488 : decode cL_act 488 = .ok (.bipush 40, 2) := by decide +kernel
theorem dL_act_490 : decode cL_act 490 = .ok (.if_icmp .le 26, 3) := by decide +kernel
theorem dL_act_493 : decode cL_act 493 = .ok (.iload 8, 2) := by decide +kernel
theorem dL_act_495 : decode cL_act 495 = .ok (.iload 7, 2) := by decide +kernel
theorem dL_act_497 : decode cL_act 497 = .ok (.ifCond .ne 7, 3) := by decide +kernel
theorem dL_act_500 : decode cL_act 500 = .ok (.iconst (-1), 1) := by decide +kernel
theorem dL_act_501 : decode cL_act 501 = .ok (.goto 5, 3) := by decide +kernel
theorem dL_act_504 : decode cL_act 504 = .ok (.bipush (-4), 2) := by decide +kernel
theorem dL_act_506 : decode cL_act 506 = .ok (.if_icmp .ne 7, 3) := by decide +kernel
theorem dL_act_509 : decode cL_act 509 = .ok (.iconst 0, 1) := by decide +kernel
theorem dL_act_510 : decode cL_act 510 = .ok (.goto 5, 3) := by decide +kernel
theorem dL_act_513 : decode cL_act 513 = .ok (.bipush (-9), 2) := by decide +kernel
theorem dL_act_515 : decode cL_act 515 = .ok (.ireturn, 1) := by decide +kernel
theorem dL_act_516 : decode cL_act 516 = .ok (.iload 8, 2) := by decide +kernel
theorem dL_act_518 : decode cL_act 518 = .ok (.iload 7, 2) := by decide +kernel
theorem dL_act_520 : decode cL_act 520 = .ok (.if_icmp .ne 42, 3) := by decide +kernel
theorem dL_act_523 : decode cL_act 523 = .ok (.aload_n 0, 1) := by decide +kernel
theorem dL_act_524 : decode cL_act 524 = .ok (.iconst 3, 1) := by decide +kernel
theorem dL_act_525 : decode cL_act 525 = .ok (.invokevirtual 13, 3) := by decide +kernel
theorem dL_act_528 : decode cL_act 528 = .ok (.iload 4, 2) := by decide +kernel
theorem dL_act_530 : decode cL_act 530 = .ok (.iconst 1, 1) := by decide +kernel
theorem dL_act_531 : decode cL_act 531 = .ok (.isub, 1) := by decide +kernel
theorem dL_act_532 : decode cL_act 532 = .ok (.if_icmp .ne 30, 3) := by decide +kernel
theorem dL_act_535 : decode cL_act 535 = .ok (.aload_n 0, 1) := by decide +kernel
theorem dL_act_536 : decode cL_act 536 = .ok (.bipush 6, 2) := by decide +kernel
theorem dL_act_538 : decode cL_act 538 = .ok (.invokevirtual 13, 3) := by decide +kernel
theorem dL_act_541 : decode cL_act 541 = .ok (.iload 5, 2) := by decide +kernel
theorem dL_act_543 : decode cL_act 543 = .ok (.if_icmp .ne 19, 3) := by decide +kernel
theorem dL_act_546 : decode cL_act 546 = .ok (.aload_n 0, 1) := by decide +kernel
theorem dL_act_547 : decode cL_act 547 = .ok (.iload 6, 2) := by decide +kernel
theorem dL_act_549 : decode cL_act 549 = .ok (.iconst 0, 1) := by decide +kernel
theorem dL_act_550 : decode cL_act 550 = .ok (.invokevirtual 19, 3) := by decide +kernel
theorem dL_act_553 : decode cL_act 553 = .ok (.iload 7, 2) := by decide +kernel
theorem dL_act_555 : decode cL_act 555 = .ok (.if_icmp .ne 7, 3) := by decide +kernel
theorem dL_act_558 : decode cL_act 558 = .ok (.iconst 1, 1) := by decide +kernel
theorem dL_act_559 : decode cL_act 559 = .ok (.goto 5, 3) := by decide +kernel
theorem dL_act_562 : decode cL_act 562 = .ok (.bipush (-9), 2) := by decide +kernel
theorem dL_act_564 : decode cL_act 564 = .ok (.ireturn, 1) := by decide +kernel
theorem dL_act_565 : decode cL_act 565 = .ok (.iload_n 3, 1) := by decide +kernel
theorem dL_act_566 : decode cL_act 566 = .ok (.bipush 9, 2) := by decide +kernel
theorem dL_act_568 : decode cL_act 568 = .ok (.if_icmp .ne 159, 3) := by decide +kernel
theorem dL_act_571 : decode cL_act 571 = .ok (.aload_n 0, 1) := by decide +kernel
theorem dL_act_572 : decode cL_act 572 = .ok (.iload_n 1, 1) := by decide +kernel
theorem dL_act_573 : decode cL_act 573 = .ok (.bipush 12, 2) := by decide +kernel
theorem dL_act_575 : decode cL_act 575 = .ok (.idiv, 1) := by decide +kernel
theorem dL_act_576 : decode cL_act 576 = .ok (.invokestatic 89, 3) := by decide +kernel
theorem dL_act_579 : decode cL_act 579 = .ok (.istore 7, 2) := by decide +kernel
theorem dL_act_581 : decode cL_act 581 = .ok (.aload_n 0, 1) := by decide +kernel
theorem dL_act_582 : decode cL_act 582 = .ok (.invokevirtual 56, 3) := by decide +kernel
theorem dL_act_585 : decode cL_act 585 = .ok (.istore 8, 2) := by decide +kernel
theorem dL_act_587 : decode cL_act 587 = .ok (.iload 4, 2) := by decide +kernel
theorem dL_act_589 : decode cL_act 589 = .ok (.ifCond .ne 7, 3) := by decide +kernel
theorem dL_act_592 : decode cL_act 592 = .ok (.iconst 0, 1) := by decide +kernel
theorem dL_act_593 : decode cL_act 593 = .ok (.goto 10, 3) := by decide +kernel
theorem dL_act_596 : decode cL_act 596 = .ok (.aload_n 0, 1) := by decide +kernel
theorem dL_act_597 : decode cL_act 597 = .ok (.iload 6, 2) := by decide +kernel
theorem dL_act_599 : decode cL_act 599 = .ok (.iconst 0, 1) := by decide +kernel
theorem dL_act_600 : decode cL_act 600 = .ok (.invokevirtual 19, 3) := by decide +kernel
theorem dL_act_603 : decode cL_act 603 = .ok (.istore 9, 2) := by decide +kernel
theorem dL_act_605 : decode cL_act 605 = .ok (.aload_n 0, 1) := by decide +kernel
theorem dL_act_606 : decode cL_act 606 = .ok (.iload 6, 2) := by decide +kernel
theorem dL_act_608 : decode cL_act 608 = .ok (.invokevirtual 47, 3) := by decide +kernel
theorem dL_act_611 : decode cL_act 611 = .ok (.istore 10, 2) := by decide +kernel
theorem dL_act_613 : decode cL_act 613 = .ok (.iload 4, 2) := by decide +kernel
theorem dL_act_615 : decode cL_act 615 = .ok (.ifCond .eq 15, 3) := by decide +kernel
theorem dL_act_618 : decode cL_act 618 = .ok (.iload 8, 2) := by decide +kernel
theorem dL_act_620 : decode cL_act 620 = .ok (.ifCond .lt 38, 3) := by decide +kernel
theorem dL_act_623 : decode cL_act 623 = .ok (.iload 8, 2) := by decide +kernel
theorem dL_act_625 : decode cL_act 625 = .ok (.iload 6, 2) := by decide +kernel
theorem dL_act_627 : decode cL_act 627 = .ok (.if_icmp .eq 31, 3) := by decide +kernel
theorem dL_act_630 : decode cL_act 630 = .ok (.iload 7, 2) := by decide +kernel
theorem dL_act_632 : decode cL_act 632 = .ok (.ifCond .eq 23, 3) := by decide +kernel
theorem dL_act_635 : decode cL_act 635 = .ok (.iload 10, 2) := by decide +kernel
theorem dL_act_637 : decode cL_act 637 = .ok (.iload 4, 2) := by decide +kernel
theorem dL_act_639 : decode cL_act 639 = .ok (.ifCond .ne 7, 3) := by decide +kernel
theorem dL_act_642 : decode cL_act 642 = .ok (.iconst (-1), 1) := by decide +kernel
theorem dL_act_643 : decode cL_act 643 = .ok (.goto 5, 3) := by decide +kernel
theorem dL_act_646 : decode cL_act 646 = .ok (.bipush (-5), 2) := by decide +kernel
theorem dL_act_648 : decode cL_act 648 = .ok (.if_icmp .ne 7, 3) := by decide +kernel
theorem dL_act_651 : decode cL_act 651 = .ok (.iconst 0, 1) := by decide +kernel
theorem dL_act_652 : decode cL_act 652 = .ok (.goto 5, 3) := by decide +kernel
theorem dL_act_655 : decode cL_act 655 = .ok (.bipush (-9), 2) := by decide +kernel
theorem dL_act_657 : decode cL_act 657 = .ok (.ireturn, 1) := by decide +kernel
theorem dL_act_658 : decode cL_act 658 = .ok (.iload 7, 2) := by decide +kernel
theorem dL_act_660 : decode cL_act 660 = .ok (.ifCond .eq 64, 3) := by decide +kernel
theorem dL_act_663 : decode cL_act 663 = .ok (.iload 10, 2) := by decide +kernel
theorem dL_act_665 : decode cL_act 665 = .ok (.ifCond .lt 59, 3) := by decide +kernel
theorem dL_act_668 : decode cL_act 668 = .ok (.aload_n 0, 1) := by decide +kernel
theorem dL_act_669 : decode cL_act 669 = .ok (.iload 10, 2) := by decide +kernel
theorem dL_act_671 : decode cL_act 671 = .ok (.iconst 0, 1) := by decide +kernel
theorem dL_act_672 : decode cL_act 672 = .ok (.invokevirtual 19, 3) := by decide +kernel
theorem dL_act_675 : decode cL_act 675 = .ok (.iload 9, 2) := by decide +kernel
theorem dL_act_677 : decode cL_act 677 = .ok (.if_icmp .ne 47, 3) := by decide +kernel
theorem dL_act_680 : decode cL_act 680 = .ok (.aload_n 0, 1) := by decide +kernel
theorem dL_act_681 : decode cL_act 681 = .ok (.bipush 13, 2) := by decide +kernel
theorem dL_act_683 : decode cL_act 683 = .ok (.invokevirtual 13, 3) := by decide +kernel
theorem dL_act_686 : decode cL_act 686 = .ok (.ifCond .ne 38, 3) := by decide +kernel
theorem dL_act_689 : decode cL_act 689 = .ok (.aload_n 0, 1) := by decide +kernel
theorem dL_act_690 : decode cL_act 690 = .ok (.bipush 6, 2) := by decide +kernel
theorem dL_act_692 : decode cL_act 692 = .ok (.invokevirtual 13, 3) := by decide +kernel
theorem dL_act_695 : decode cL_act 695 = .ok (.iload 5, 2) := by decide +kernel
theorem dL_act_697 : decode cL_act 697 = .ok (.if_icmp .ne 27, 3) := by decide +kernel
theorem dL_act_700 : decode cL_act 700 = .ok (.aload_n 0, 1) := by decide +kernel
theorem dL_act_701 : decode cL_act 701 = .ok (.iload_n 1, 1) := by decide +kernel
theorem dL_act_702 : decode cL_act 702 = .ok (.bipush 12, 2) := by decide +kernel
theorem dL_act_704 : decode cL_act 704 = .ok (.idiv, 1) := by decide +kernel
theorem dL_act_705 : decode cL_act 705 = .ok (.invokestatic 89, 3) := by decide +kernel
theorem dL_act_708 : decode cL_act 708 = .ok (.ifCond .eq 16, 3) := by decide +kernel
theorem dL_act_711 : decode cL_act 711 = .ok (.aload_n 0, 1) := by decide +kernel
theorem dL_act_712 : decode cL_act 712 = .ok (.invokevirtual 56, 3) := by decide +kernel
theorem dL_act_715 : decode cL_act 715 = .ok (.iload 10, 2) := by decide +kernel
theorem dL_act_717 : decode cL_act 717 = .ok (.if_icmp .ne 7, 3) := by decide +kernel
theorem dL_act_720 : decode cL_act 720 = .ok (.iconst 1, 1) := by decide +kernel
theorem dL_act_721 : decode cL_act 721 = .ok (.goto 5, 3) := by decide +kernel
theorem dL_act_724 : decode cL_act 724 = .ok (.bipush (-9), 2) := by decide +kernel
theorem dL_act_726 : decode cL_act 726 = .ok (.ireturn, 1) := by decide +kernel
theorem dL_act_727 : decode cL_act 727 = .ok (.iload_n 2, 1) := by decide +kernel
theorem dL_act_728 : decode cL_act 728 = .ok (.iconst 3, 1) := by decide +kernel
theorem dL_act_729 : decode cL_act 729 = .ok (.irem, 1) := by decide +kernel
theorem dL_act_730 : decode cL_act 730 = .ok (.istore 7, 2) := by decide +kernel
theorem dL_act_732 : decode cL_act 732 = .ok (.aload_n 0, 1) := by decide +kernel
theorem dL_act_733 : decode cL_act 733 = .ok (.iload 7, 2) := by decide +kernel
theorem dL_act_735 : decode cL_act 735 = .ok (.invokevirtual 13, 3) := by decide +kernel
theorem dL_act_738 : decode cL_act 738 = .ok (.istore 8, 2) := by decide +kernel
theorem dL_act_740 : decode cL_act 740 = .ok (.iload 7, 2) := by decide +kernel
theorem dL_act_742 : decode cL_act 742 = .ok (.ifCond .ne 15, 3) := by decide +kernel
theorem dL_act_745 : decode cL_act 745 = .ok (.bipush 6, 2) := by decide +kernel
theorem dL_act_747 : decode cL_act 747 = .ok (.iload_n 2, 1) := by decide +kernel
theorem dL_act_748 : decode cL_act 748 = .ok (.iconst 3, 1) := by decide +kernel
theorem dL_act_749 : decode cL_act 749 = .ok (.idiv, 1) := by decide +kernel
theorem dL_act_750 : decode cL_act 750 = .ok (.bipush 35, 2) := by decide +kernel
theorem dL_act_752 : decode cL_act 752 = .ok (.irem, 1) := by decide +kernel
theorem dL_act_753 : decode cL_act 753 = .ok (.iadd, 1) := by decide +kernel
theorem dL_act_754 : decode cL_act 754 = .ok (.goto 27, 3) := by decide +kernel
theorem dL_act_757 : decode cL_act 757 = .ok (.iload 7, 2) := by decide +kernel
theorem dL_act_759 : decode cL_act 759 = .ok (.iconst 1, 1) := by decide +kernel
theorem dL_act_760 : decode cL_act 760 = .ok (.if_icmp .ne 14, 3) := by decide +kernel
theorem dL_act_763 : decode cL_act 763 = .ok (.iconst 4, 1) := by decide +kernel
theorem dL_act_764 : decode cL_act 764 = .ok (.iload_n 2, 1) := by decide +kernel
theorem dL_act_765 : decode cL_act 765 = .ok (.iconst 3, 1) := by decide +kernel
theorem dL_act_766 : decode cL_act 766 = .ok (.idiv, 1) := by decide +kernel
theorem dL_act_767 : decode cL_act 767 = .ok (.bipush 27, 2) := by decide +kernel
theorem dL_act_769 : decode cL_act 769 = .ok (.irem, 1) := by decide +kernel
theorem dL_act_770 : decode cL_act 770 = .ok (.iadd, 1) := by decide +kernel
theorem dL_act_771 : decode cL_act 771 = .ok (.goto 10, 3) := by decide +kernel
theorem dL_act_774 : decode cL_act 774 = .ok (.iconst 1, 1) := by decide +kernel
theorem dL_act_775 : decode cL_act 775 = .ok (.iload_n 2, 1) := by decide +kernel
theorem dL_act_776 : decode cL_act 776 = .ok (.iconst 3, 1) := by decide +kernel
theorem dL_act_777 : decode cL_act 777 = .ok (.idiv, 1) := by decide +kernel
theorem dL_act_778 : decode cL_act 778 = .ok (.iconst 3, 1) := by decide +kernel
theorem dL_act_779 : decode cL_act 779 = .ok (.irem, 1) := by decide +kernel
theorem dL_act_780 : decode cL_act 780 = .ok (.iadd, 1) := by decide +kernel
theorem dL_act_781 : decode cL_act 781 = .ok (.istore 9, 2) := by decide +kernel
theorem dL_act_783 : decode cL_act 783 = .ok (.aload_n 0, 1) := by decide +kernel
theorem dL_act_784 : decode cL_act 784 = .ok (.iload 7, 2) := by decide +kernel
theorem dL_act_786 : decode cL_act 786 = .ok (.iload 9, 2) := by decide +kernel
theorem dL_act_788 : decode cL_act 788 = .ok (.invokevirtual 66, 3) := by decide +kernel
theorem dL_act_791 : decode cL_act 791 = .ok (.istore 10, 2) := by decide +kernel
theorem dL_act_793 : decode cL_act 793 = .ok (.aload_n 0, 1) := by decide +kernel
theorem dL_act_794 : decode cL_act 794 = .ok (.iload 7, 2) := by decide +kernel
theorem dL_act_796 : decode cL_act 796 = .ok (.iload 9, 2) := by decide +kernel
theorem dL_act_798 : decode cL_act 798 = .ok (.invokevirtual 28, 3) := by decide +kernel
theorem dL_act_801 : decode cL_act 801 = .ok (.iload 8, 2) := by decide +kernel
theorem dL_act_803 : decode cL_act 803 = .ok (.if_icmp .ne 39, 3) := by decide +kernel
theorem dL_act_806 : decode cL_act 806 = .ok (.aload_n 0, 1) := by decide +kernel
theorem dL_act_807 : decode cL_act 807 = .ok (.iload 7, 2) := by decide +kernel
theorem dL_act_809 : decode cL_act 809 = .ok (.invokevirtual 13, 3) := by decide +kernel
theorem dL_act_812 : decode cL_act 812 = .ok (.iload 9, 2) := by decide +kernel
theorem dL_act_814 : decode cL_act 814 = .ok (.if_icmp .ne 28, 3) := by decide +kernel
theorem dL_act_817 : decode cL_act 817 = .ok (.aload_n 0, 1) := by decide +kernel
theorem dL_act_818 : decode cL_act 818 = .ok (.iconst 4, 1) := by decide +kernel
theorem dL_act_819 : decode cL_act 819 = .ok (.invokevirtual 13, 3) := by decide +kernel
theorem dL_act_822 : decode cL_act 822 = .ok (.iload 10, 2) := by decide +kernel
theorem dL_act_824 : decode cL_act 824 = .ok (.if_icmp .ne 18, 3) := by decide +kernel
theorem dL_act_827 : decode cL_act 827 = .ok (.aload_n 0, 1) := by decide +kernel
theorem dL_act_828 : decode cL_act 828 = .ok (.bipush 6, 2) := by decide +kernel
theorem dL_act_830 : decode cL_act 830 = .ok (.invokevirtual 13, 3) := by decide +kernel
theorem dL_act_833 : decode cL_act 833 = .ok (.iload 5, 2) := by decide +kernel
theorem dL_act_835 : decode cL_act 835 = .ok (.if_icmp .ne 7, 3) := by decide +kernel
theorem dL_act_838 : decode cL_act 838 = .ok (.iconst 1, 1) := by decide +kernel
theorem dL_act_839 : decode cL_act 839 = .ok (.goto 5, 3) := by decide +kernel
theorem dL_act_842 : decode cL_act 842 = .ok (.bipush (-9), 2) := by decide +kernel
theorem dL_act_844 : decode cL_act 844 = .ok (.ireturn, 1) := by decide +kernel
set_option maxRecDepth 20000 in
theorem ggL_law_X5_init : GoodIn wsL_law wsX5_init := goodIn_r _ [5, 6, 7, 8, 9, 10, 11, 12, 13, 14, 15, 16, 17, 18, 19, 20, 21, 22, 23, 24, 25, 26, 27, 28, 29, 30, 31, 32, 33, 34, 35, 36, 37, 38, 39, 40, 41, 42, 43, 44, 45, 46, 47, 48, 49, 50, 51, 52, 53, 54, 55, 56, 57, 58, 59, 60, 61, 62, 63, 64, 65, 66, 67, 68, 69, 70, 71, 2, 72, 73, 74, 75, 76, 77, 78, 79, 80, 81, 82, 83, 84, 85, 86, 87, 88, 89, 90, 91, 92, 93, 94, 95, 96, 97, 98, 99, 100, 101, 102, 103, 104, 105, 106, 107, 108, 109, 110, 111, 112, 113, 114, 115, 116, 117, 118, 119, 120, 121, 122, 123, 124, 125, 126, 127, 128, 129, 130, 131, 132, 431, 432, 433, 434, 423, 424, 425, 426, 427, 428, 429, 430, 435, 436, 437, 438, 439, 440, 441, 442, 443, 444, 445, 446, 447, 448, 449, 450, 451, 452, 453] (by decide +kernel) (by decide +kernel)
set_option maxRecDepth 20000 in
theorem gL_law_X5_init : GoodIn wsL_law (wsX5_init) := ggL_law_X5_init
set_option maxRecDepth 20000 in
theorem ggL_law_X5_undo : GoodIn wsL_law wsX5_undo := goodIn_r _ [136, 26, 137, 12, 138, 139, 140, 25, 141, 68, 67, 142, 143, 144, 11, 145, 34, 38, 35, 37, 69, 70, 71, 2, 72, 17, 73, 74, 75, 76, 16, 77, 55, 51, 53, 52, 54, 78, 79, 80, 81, 56, 82, 83, 84, 85, 86, 87, 88, 89, 90, 91, 44, 92, 93, 94, 95, 96, 97, 98, 99, 49, 50, 47, 48, 100, 101, 102, 103, 42, 43, 104, 105, 106, 107, 108, 109, 110, 111, 45, 46, 112, 113, 114, 115, 116, 117, 118, 119, 120, 121, 122, 123, 124, 125, 126, 127, 128, 129, 130, 131, 132, 423, 424, 425, 426, 427, 428, 429, 430, 452, 453, 431, 432, 433, 434, 435, 436, 437, 438, 439, 440, 441, 442, 443, 444, 445, 446, 447, 448, 449] (by decide +kernel) (by decide +kernel)
set_option maxRecDepth 20000 in
theorem gL_law_X5_undo : GoodIn wsL_law (wsV RL 95 RX5 yX5_undo wsX5_undo) := goodIn_app (goodIn_of _ (by decide +kernel)) ggL_law_X5_undo
set_option maxRecDepth 20000 in
theorem ggL_law_X5_restore : GoodIn wsL_law wsX5_restore := goodIn_r _ [149, 29, 26, 12, 27, 150, 151, 152, 2, 153, 154, 155, 156, 25, 157, 68, 67, 158, 159, 160, 161, 142, 143, 144, 11, 145, 34, 38, 35, 37, 162, 69, 70, 71, 72, 17, 73, 74, 75, 76, 16, 77, 55, 51, 53, 52, 54, 78, 79, 80, 81, 56, 82, 83, 84, 85, 86, 87, 88, 89, 90, 91, 44, 92, 93, 94, 95, 96, 97, 98, 99, 49, 50, 47, 48, 100, 101, 102, 103, 42, 43, 104, 105, 106, 107, 108, 109, 110, 111, 45, 46, 112, 113, 114, 115, 116, 117, 118, 119, 120, 121, 122, 123, 124, 125, 126, 127, 128, 129, 130, 131, 132, 423, 424, 425, 426, 427, 428, 429, 430, 431, 432, 433, 434, 452, 453, 435, 436, 437, 438, 439, 440, 441, 442, 443, 444, 445, 446, 447, 448, 449] (by decide +kernel) (by decide +kernel)
set_option maxRecDepth 20000 in
theorem gL_law_X5_restore : GoodIn wsL_law (wsV RL 78 RX5 yX5_restore wsX5_restore) := goodIn_app (goodIn_of _ (by decide +kernel)) ggL_law_X5_restore
set_option maxRecDepth 20000 in
theorem ggL_law_X5_count : GoodIn wsL_law wsX5_count := goodIn_r _ [166, 12, 73, 150, 22, 167, 26, 137, 168, 169, 170, 11, 171, 38, 35, 172, 173, 174, 2, 175, 17, 176, 177, 178, 179, 180, 181, 16, 182, 51, 183, 184, 185, 186, 187, 188, 189, 190, 55, 49, 48, 191, 192, 193, 194, 47, 195, 196, 197, 198, 199, 200, 201, 202, 44, 42, 203, 204, 205, 206, 423, 424, 425, 426, 427, 428, 429, 430, 431, 432, 433, 434, 450, 451, 452, 453, 435, 436, 437, 438, 439, 440, 441, 442, 443, 444, 445, 446, 447, 448, 449] (by decide +kernel) (by decide +kernel)
set_option maxRecDepth 20000 in
theorem gL_law_X5_count : GoodIn wsL_law (wsV RL 13 RX5 yX5_count wsX5_count) := goodIn_app (goodIn_of _ (by decide +kernel)) ggL_law_X5_count
set_option maxRecDepth 20000 in
theorem ggL_law_L_refuses_c1 : GoodIn wsL_law (.code yL_refuses cL_refuses 5 (some .boolean) :: wsL_refuses_r1) := goodIn_r _ [210, 211, 212, 209, 213, 214, 215, 163, 164, 165, 2, 166, 12, 73, 150, 22, 167, 26, 137, 168, 169, 170, 11, 171, 38] (by decide +kernel) (by decide +kernel)
theorem ggL_law_L_refuses_c2 : GoodIn wsL_law wsL_refuses_r2 := goodIn_r _ [35, 172, 173, 174, 175, 17, 176, 177, 178, 179, 180, 181, 16, 182, 51, 183, 184, 185, 186, 187, 188, 189, 190, 55] (by decide +kernel) (by decide +kernel)
theorem ggL_law_L_refuses_c3 : GoodIn wsL_law wsL_refuses_r3 := goodIn_r _ [49, 48, 191, 192, 193, 194, 47, 195, 196, 197, 198, 199, 200, 201, 202, 44, 42, 203, 204, 205, 206, 216, 217, 218] (by decide +kernel) (by decide +kernel)
theorem ggL_law_L_refuses_c4 : GoodIn wsL_law wsL_refuses_r4 := goodIn_r _ [219, 220, 221, 222, 223, 224, 125, 126, 127, 225, 226, 121, 122, 123, 37, 124, 227, 129, 130, 131, 132, 228, 229, 230] (by decide +kernel) (by decide +kernel)
theorem ggL_law_L_refuses_c5 : GoodIn wsL_law wsL_refuses_r5 := goodIn_r _ [231, 232, 233, 234, 235, 236, 237, 238, 239, 240, 241, 242, 243, 244, 245, 246, 247, 248, 249, 250, 154, 155, 156, 25] (by decide +kernel) (by decide +kernel)
theorem ggL_law_L_refuses_c6 : GoodIn wsL_law wsL_refuses_r6 := goodIn_r _ [157, 68, 67, 158, 159, 160, 161, 142, 143, 144, 145, 34, 69, 70, 71, 72, 74, 75, 76, 77, 53, 52, 54, 78] (by decide +kernel) (by decide +kernel)
theorem ggL_law_L_refuses_c7 : GoodIn wsL_law wsL_refuses_r7 := goodIn_r _ [79, 80, 81, 56, 82, 83, 84, 85, 86, 87, 88, 89, 90, 91, 92, 93, 94, 95, 96, 97, 98, 99, 50, 100] (by decide +kernel) (by decide +kernel)
theorem ggL_law_L_refuses_c8 : GoodIn wsL_law wsL_refuses_r8 := goodIn_r _ [101, 102, 103, 43, 104, 105, 106, 107, 108, 109, 110, 111, 45, 46, 112, 113, 114, 115, 116, 117, 118, 119, 120, 128] (by decide +kernel) (by decide +kernel)
theorem ggL_law_L_refuses_c9 : GoodIn wsL_law wsL_refuses_r9 := goodIn_r _ [251, 252, 253, 254, 255, 256, 257, 258, 259, 260, 261, 262, 263, 264, 265, 266, 267, 268, 269, 270, 271, 272, 273, 21] (by decide +kernel) (by decide +kernel)
theorem ggL_law_L_refuses_c10 : GoodIn wsL_law wsL_refuses_r10 := goodIn_r _ [274, 61, 275, 276, 277, 278, 13, 279, 280, 281, 282, 60, 283, 284, 285, 286, 287, 288, 289, 290, 291, 292, 293, 294] (by decide +kernel) (by decide +kernel)
theorem ggL_law_L_refuses_c11 : GoodIn wsL_law wsL_refuses_r11 := goodIn_r _ [162, 295, 296, 297, 298, 299, 300, 301, 302, 303, 304, 305, 306, 307, 308, 309, 310, 311, 312, 313, 314, 315, 316, 317] (by decide +kernel) (by decide +kernel)
