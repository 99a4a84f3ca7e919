theorem dL_passes_224 : decode cL_passes 224 = .ok (.iconst (-1), 1) := by decide +kernel
theorem dL_passes_225 : decode cL_passes 225 = .ok (.invokevirtual 174, 3) := by decide +kernel
theorem dL_passes_228 : decode cL_passes 228 = .ok (.iadd, 1) := by decide +kernel
theorem dL_passes_229 : decode cL_passes 229 = .ok (.istore 13, 2) := by decide +kernel
theorem dL_passes_231 : decode cL_passes 231 = .ok (.aload_n 0, 1) := by decide +kernel
theorem dL_passes_232 : decode cL_passes 232 = .ok (.getfield 10, 3) := by decide +kernel
theorem dL_passes_235 : decode cL_passes 235 = .ok (.iload_n 2, 1) := by decide +kernel
theorem dL_passes_236 : decode cL_passes 236 = .ok (.invokevirtual 177, 3) := by decide +kernel
theorem dL_passes_239 : decode cL_passes 239 = .ok (.istore 14, 2) := by decide +kernel
theorem dL_passes_241 : decode cL_passes 241 = .ok (.aload_n 0, 1) := by decide +kernel
theorem dL_passes_242 : decode cL_passes 242 = .ok (.getfield 10, 3) := by decide +kernel
theorem dL_passes_245 : decode cL_passes 245 = .ok (.iload_n 3, 1) := by decide +kernel
theorem dL_passes_246 : decode cL_passes 246 = .ok (.iload_n 3, 1) := by decide +kernel
theorem dL_passes_247 : decode cL_passes 247 = .ok (.iload_n 2, 1) := by decide +kernel
theorem dL_passes_248 : decode cL_passes 248 = .ok (.iadd, 1) := by decide +kernel
theorem dL_passes_249 : decode cL_passes 249 = .ok (.invokevirtual 180, 3) := by decide +kernel
theorem dL_passes_252 : decode cL_passes 252 = .ok (.istore 15, 2) := by decide +kernel
theorem dL_passes_254 : decode cL_passes 254 = .ok (.iconst 0, 1) := by decide +kernel
theorem dL_passes_255 : decode cL_passes 255 = .ok (.istore 16, 2) := by decide +kernel
theorem dL_passes_257 : decode cL_passes 257 = .ok (.iload 16, 2) := by decide +kernel
theorem dL_passes_259 : decode cL_passes 259 = .ok (.iload_n 1, 1) := by decide +kernel
theorem dL_passes_260 : decode cL_passes 260 = .ok (.if_icmp .ge 229, 3) := by decide +kernel
theorem dL_passes_263 : decode cL_passes 263 = .ok (.aload_n 0, 1) := by decide +kernel
theorem dL_passes_264 : decode cL_passes 264 = .ok (.getfield 19, 3) := by decide +kernel
theorem dL_passes_267 : decode cL_passes 267 = .ok (.aload_n 0, 1) := by decide +kernel
theorem dL_passes_268 : decode cL_passes 268 = .ok (.getfield 10, 3) := by decide +kernel
theorem dL_passes_271 : decode cL_passes 271 = .ok (.iload 16, 2) := by decide +kernel
theorem dL_passes_273 : decode cL_passes 273 = .ok (.invokevirtual 183, 3) := by decide +kernel
theorem dL_passes_276 : decode cL_passes 276 = .ok (.invokevirtual 186, 3) := by decide +kernel
theorem dL_passes_279 : decode cL_passes 279 = .ok (.checkcast 190, 3) := by decide +kernel
theorem dL_passes_282 : decode cL_passes 282 = .ok (.iconst 5, 1) := by decide +kernel
theorem dL_passes_283 : decode cL_passes 283 = .ok (.iaload, 1) := by decide +kernel
theorem dL_passes_284 : decode cL_passes 284 = .ok (.iconst 1, 1) := by decide +kernel
theorem dL_passes_285 : decode cL_passes 285 = .ok (.if_icmp .ne 7, 3) := by decide +kernel
theorem dL_passes_288 : decode cL_passes 288 = .ok (.iload_n 2, 1) := by decide +kernel
theorem dL_passes_289 : decode cL_passes 289 = .ok (.goto 5, 3) := by decide +kernel
theorem dL_passes_292 : decode cL_passes 292 = .ok (.iload 15, 2) := by decide +kernel
theorem dL_passes_294 : decode cL_passes 294 = .ok (.istore 17, 2) := by decide +kernel
theorem dL_passes_296 : decode cL_passes 296 = .ok (.aload_n 0, 1) := by decide +kernel
theorem dL_passes_297 : decode cL_passes 297 = .ok (.getfield 10, 3) := by decide +kernel
theorem dL_passes_300 : decode cL_passes 300 = .ok (.iload 16, 2) := by decide +kernel
theorem dL_passes_302 : decode cL_passes 302 = .ok (.invokevirtual 165, 3) := by decide +kernel
theorem dL_passes_305 : decode cL_passes 305 = .ok (.aload 7, 2) := by decide +kernel
theorem dL_passes_307 : decode cL_passes 307 = .ok (.iload 16, 2) := by decide +kernel
theorem dL_passes_309 : decode cL_passes 309 = .ok (.iaload, 1) := by decide +kernel
theorem dL_passes_310 : decode cL_passes 310 = .ok (.isub, 1) := by decide +kernel
theorem dL_passes_311 : decode cL_passes 311 = .ok (.istore 18, 2) := by decide +kernel
theorem dL_passes_313 : decode cL_passes 313 = .ok (.aload_n 0, 1) := by decide +kernel
theorem dL_passes_314 : decode cL_passes 314 = .ok (.getfield 10, 3) := by decide +kernel
theorem dL_passes_317 : decode cL_passes 317 = .ok (.iload 16, 2) := by decide +kernel
theorem dL_passes_319 : decode cL_passes 319 = .ok (.invokevirtual 147, 3) := by decide +kernel
theorem dL_passes_322 : decode cL_passes 322 = .ok (.aload 8, 2) := by decide +kernel
theorem dL_passes_324 : decode cL_passes 324 = .ok (.iload 16, 2) := by decide +kernel
theorem dL_passes_326 : decode cL_passes 326 = .ok (.iaload, 1) := by decide +kernel
theorem dL_passes_327 : decode cL_passes 327 = .ok (.isub, 1) := by decide +kernel
theorem dL_passes_328 : decode cL_passes 328 = .ok (.istore 19, 2) := by decide +kernel
theorem dL_passes_330 : decode cL_passes 330 = .ok (.iload 18, 2) := by decide +kernel
theorem dL_passes_332 : decode cL_passes 332 = .ok (.ifCond .lt 42, 3) := by decide +kernel
theorem dL_passes_335 : decode cL_passes 335 = .ok (.iload 18, 2) := by decide +kernel
theorem dL_passes_337 : decode cL_passes 337 = .ok (.iload 17, 2) := by decide +kernel
theorem dL_passes_339 : decode cL_passes 339 = .ok (.if_icmp .gt 35, 3) := by decide +kernel
theorem dL_passes_342 : decode cL_passes 342 = .ok (.iload 19, 2) := by decide +kernel
theorem dL_passes_344 : decode cL_passes 344 = .ok (.ifCond .lt 30, 3) := by decide +kernel
theorem dL_passes_347 : decode cL_passes 347 = .ok (.iload 19, 2) := by decide +kernel
theorem dL_passes_349 : decode cL_passes 349 = .ok (.iload 17, 2) := by decide +kernel
theorem dL_passes_351 : decode cL_passes 351 = .ok (.if_icmp .gt 23, 3) := by decide +kernel
theorem dL_passes_354 : decode cL_passes 354 = .ok (.lload 9, 2) := by decide +kernel
theorem dL_passes_356 : decode cL_passes 356 = .ok (.iload 16, 2) := by decide +kernel
theorem dL_passes_358 : decode cL_passes 358 = .ok (.lshr, 1) := by decide +kernel
theorem dL_passes_359 : decode cL_passes 359 = .ok (.lconst 1, 1) := by decide +kernel
theorem dL_passes_360 : decode cL_passes 360 = .ok (.land, 1) := by decide +kernel
theorem dL_passes_361 : decode cL_passes 361 = .ok (.lconst 1, 1) := by decide +kernel
theorem dL_passes_362 : decode cL_passes 362 = .ok (.lcmp, 1) := by decide +kernel
theorem dL_passes_363 : decode cL_passes 363 = .ok (.ifCond .ne 13, 3) := by decide +kernel
theorem dL_passes_366 : decode cL_passes 366 = .ok (.iload 18, 2) := by decide +kernel
theorem dL_passes_368 : decode cL_passes 368 = .ok (.iload 19, 2) := by decide +kernel
theorem dL_passes_370 : decode cL_passes 370 = .ok (.iadd, 1) := by decide +kernel
theorem dL_passes_371 : decode cL_passes 371 = .ok (.ifCond .le 5, 3) := by decide +kernel
theorem dL_passes_374 : decode cL_passes 374 = .ok (.iconst 0, 1) := by decide +kernel
theorem dL_passes_375 : decode cL_passes 375 = .ok (.ireturn, 1) := by decide +kernel
theorem dL_passes_376 : decode cL_passes 376 = .ok (.iload 4, 2) := by decide +kernel
theorem dL_passes_378 : decode cL_passes 378 = .ok (.aload_n 0, 1) := by decide +kernel
theorem dL_passes_379 : decode cL_passes 379 = .ok (.getfield 10, 3) := by decide +kernel
theorem dL_passes_382 : decode cL_passes 382 = .ok (.iload 16, 2) := by decide +kernel
theorem dL_passes_384 : decode cL_passes 384 = .ok (.invokevirtual 68, 3) := by decide +kernel
theorem dL_passes_387 : decode cL_passes 387 = .ok (.iconst 3, 1) := by decide +kernel
theorem dL_passes_388 : decode cL_passes 388 = .ok (.if_icmp .ne 7, 3) := by decide +kernel
theorem dL_passes_391 : decode cL_passes 391 = .ok (.iconst 1, 1) := by decide +kernel
theorem dL_passes_392 : decode cL_passes 392 = .ok (.goto 4, 3) := by decide +kernel
theorem dL_passes_395 : decode cL_passes 395 = .ok (.iconst 0, 1) := by decide +kernel
theorem dL_passes_396 : decode cL_passes 396 = .ok (.iadd, 1) := by decide +kernel
theorem dL_passes_397 : decode cL_passes 397 = .ok (.istore 4, 2) := by decide +kernel
theorem dL_passes_399 : decode cL_passes 399 = .ok (.aload 6, 2) := by decide +kernel
theorem dL_passes_401 : decode cL_passes 401 = .ok (.iload 16, 2) := by decide +kernel
theorem dL_passes_403 : decode cL_passes 403 = .ok (.iaload, 1) := by decide +kernel
theorem dL_passes_404 : decode cL_passes 404 = .ok (.bipush (-9), 2) := by decide +kernel
theorem dL_passes_406 : decode cL_passes 406 = .ok (.if_icmp .ne 6, 3) := by decide +kernel
theorem dL_passes_409 : decode cL_passes 409 = .ok (.goto 74, 3) := by decide +kernel
theorem dL_passes_412 : decode cL_passes 412 = .ok (.aload 6, 2) := by decide +kernel
theorem dL_passes_414 : decode cL_passes 414 = .ok (.iload 16, 2) := by decide +kernel
theorem dL_passes_416 : decode cL_passes 416 = .ok (.iaload, 1) := by decide +kernel
theorem dL_passes_417 : decode cL_passes 417 = .ok (.ifCond .lt 47, 3) := by decide +kernel
theorem dL_passes_420 : decode cL_passes 420 = .ok (.aload 6, 2) := by decide +kernel
theorem dL_passes_422 : decode cL_passes 422 = .ok (.iload 16, 2) := by decide +kernel
theorem dL_passes_424 : decode cL_passes 424 = .ok (.iaload, 1) := by decide +kernel
theorem dL_passes_425 : decode cL_passes 425 = .ok (.iload_n 3, 1) := by decide +kernel
theorem dL_passes_426 : decode cL_passes 426 = .ok (.iload_n 2, 1) := by decide +kernel
theorem dL_passes_427 : decode cL_passes 427 = .ok (.iadd, 1) := by decide +kernel
theorem dL_passes_428 : decode cL_passes 428 = .ok (.if_icmp .gt 36, 3) := by decide +kernel
theorem dL_passes_431 : decode cL_passes 431 = .ok (.aload_n 0, 1) := by decide +kernel
theorem dL_passes_432 : decode cL_passes 432 = .ok (.getfield 10, 3) := by decide +kernel
theorem dL_passes_435 : decode cL_passes 435 = .ok (.iload 16, 2) := by decide +kernel
theorem dL_passes_437 : decode cL_passes 437 = .ok (.invokevirtual 68, 3) := by decide +kernel
theorem dL_passes_440 : decode cL_passes 440 = .ok (.iconst 3, 1) := by decide +kernel
theorem dL_passes_441 : decode cL_passes 441 = .ok (.if_icmp .ne 40, 3) := by decide +kernel
theorem dL_passes_444 : decode cL_passes 444 = .ok (.aload_n 0, 1) := by decide +kernel
theorem dL_passes_445 : decode cL_passes 445 = .ok (.getfield 10, 3) := by decide +kernel
theorem dL_passes_448 : decode cL_passes 448 = .ok (.iload 16, 2) := by decide +kernel
theorem dL_passes_450 : decode cL_passes 450 = .ok (.invokevirtual 123, 3) := by decide +kernel
theorem dL_passes_453 : decode cL_passes 453 = .ok (.aload 6, 2) := by decide +kernel
theorem dL_passes_455 : decode cL_passes 455 = .ok (.iload 16, 2) := by decide +kernel
theorem dL_passes_457 : decode cL_passes 457 = .ok (.iaload, 1) := by decide +kernel
theorem dL_passes_458 : decode cL_passes 458 = .ok (.if_icmp .eq 25, 3) := by decide +kernel
theorem dL_passes_461 : decode cL_passes 461 = .ok (.goto 20, 3) := by decide +kernel
theorem dL_passes_464 : decode cL_passes 464 = .ok (.aload_n 0, 1) := by decide +kernel
theorem dL_passes_465 : decode cL_passes 465 = .ok (.getfield 10, 3) := by decide +kernel
theorem dL_passes_468 : decode cL_passes 468 = .ok (.iload 16, 2) := by decide +kernel
theorem dL_passes_470 : decode cL_passes 470 = .ok (.invokevirtual 153, 3) := by decide +kernel
theorem dL_passes_473 : decode cL_passes 473 = .ok (.aload 6, 2) := by decide +kernel
theorem dL_passes_475 : decode cL_passes 475 = .ok (.iload 16, 2) := by decide +kernel
theorem dL_passes_477 : decode cL_passes 477 = .ok (.iaload, 1) := by decide +kernel
theorem dL_passes_478 : decode cL_passes 478 = .ok (.if_icmp .eq 5, 3) := by decide +kernel
theorem dL_passes_481 : decode cL_passes 481 = .ok (.iconst 0, 1) := by decide +kernel
theorem dL_passes_482 : decode cL_passes 482 = .ok (.ireturn, 1) := by decide +kernel
theorem dL_passes_483 : decode cL_passes 483 = .ok (.iinc 16 1, 3) := by decide +kernel
theorem dL_passes_486 : decode cL_passes 486 = .ok (.goto (-229), 3) := by decide +kernel
theorem dL_passes_489 : decode cL_passes 489 = .ok (.aload_n 0, 1) := by decide +kernel
theorem dL_passes_490 : decode cL_passes 490 = .ok (.getfield 10, 3) := by decide +kernel
theorem dL_passes_493 : decode cL_passes 493 = .ok (.iconst (-1), 1) := by decide +kernel
theorem dL_passes_494 : decode cL_passes 494 = .ok (.invokevirtual 171, 3) := by decide +kernel
theorem dL_passes_497 : decode cL_passes 497 = .ok (.aload_n 0, 1) := by decide +kernel
theorem dL_passes_498 : decode cL_passes 498 = .ok (.getfield 10, 3) := by decide +kernel
theorem dL_passes_501 : decode cL_passes 501 = .ok (.iconst (-1), 1) := by decide +kernel
theorem dL_passes_502 : decode cL_passes 502 = .ok (.invokevirtual 174, 3) := by decide +kernel
theorem dL_passes_505 : decode cL_passes 505 = .ok (.iadd, 1) := by decide +kernel
theorem dL_passes_506 : decode cL_passes 506 = .ok (.istore 16, 2) := by decide +kernel
theorem dL_passes_508 : decode cL_passes 508 = .ok (.iload 14, 2) := by decide +kernel
theorem dL_passes_510 : decode cL_passes 510 = .ok (.iload 4, 2) := by decide +kernel
theorem dL_passes_512 : decode cL_passes 512 = .ok (.iload 5, 2) := by decide +kernel
theorem dL_passes_514 : decode cL_passes 514 = .ok (.isub, 1) := by decide +kernel
theorem dL_passes_515 : decode cL_passes 515 = .ok (.if_icmp .ne 52, 3) := by decide +kernel
theorem dL_passes_518 : decode cL_passes 518 = .ok (.aload_n 0, 1) := by decide +kernel
theorem dL_passes_519 : decode cL_passes 519 = .ok (.getfield 10, 3) := by decide +kernel
theorem dL_passes_522 : decode cL_passes 522 = .ok (.invokevirtual 117, 3) := by decide +kernel
theorem dL_passes_525 : decode cL_passes 525 = .ok (.iload_n 3, 1) := by decide +kernel
theorem dL_passes_526 : decode cL_passes 526 = .ok (.iload_n 2, 1) := by decide +kernel
theorem dL_passes_527 : decode cL_passes 527 = .ok (.iadd, 1) := by decide +kernel
theorem dL_passes_528 : decode cL_passes 528 = .ok (.if_icmp .ne 39, 3) := by decide +kernel
theorem dL_passes_531 : decode cL_passes 531 = .ok (.iload 16, 2) := by decide +kernel
theorem dL_passes_533 : decode cL_passes 533 = .ok (.iload 13, 2) := by decide +kernel
theorem dL_passes_535 : decode cL_passes 535 = .ok (.if_icmp .lt 32, 3) := by decide +kernel
theorem dL_passes_538 : decode cL_passes 538 = .ok (.aload_n 0, 1) := by decide +kernel
theorem dL_passes_539 : decode cL_passes 539 = .ok (.getfield 10, 3) := by decide +kernel
theorem dL_passes_542 : decode cL_passes 542 = .ok (.invokevirtual 168, 3) := by decide +kernel
theorem dL_passes_545 : decode cL_passes 545 = .ok (.iload 12, 2) := by decide +kernel
theorem dL_passes_547 : decode cL_passes 547 = .ok (.iload 16, 2) := by decide +kernel
theorem dL_passes_549 : decode cL_passes 549 = .ok (.iload 13, 2) := by decide +kernel
theorem dL_passes_551 : decode cL_passes 551 = .ok (.isub, 1) := by decide +kernel
theorem dL_passes_552 : decode cL_passes 552 = .ok (.isub, 1) := by decide +kernel
theorem dL_passes_553 : decode cL_passes 553 = .ok (.if_icmp .ne 14, 3) := by decide +kernel
theorem dL_passes_556 : decode cL_passes 556 = .ok (.aload_n 0, 1) := by decide +kernel
theorem dL_passes_557 : decode cL_passes 557 = .ok (.invokevirtual 191, 3) := by decide +kernel
theorem dL_passes_560 : decode cL_passes 560 = .ok (.ifCond .eq 7, 3) := by decide +kernel
theorem dL_passes_563 : decode cL_passes 563 = .ok (.iconst 1, 1) := by decide +kernel
theorem dL_passes_564 : decode cL_passes 564 = .ok (.goto 4, 3) := by decide +kernel
theorem dL_passes_567 : decode cL_passes 567 = .ok (.iconst 0, 1) := by decide +kernel
theorem dL_passes_568 : decode cL_passes 568 = .ok (.ireturn, 1) := by decide +kernel
theorem dL_keeps_0 : decode cL_keeps 0 = .ok (.aload_n 0, 1) := by decide +kernel
theorem dL_keeps_1 : decode cL_keeps 1 = .ok (.getfield 10, 3) := by decide +kernel
theorem dL_keeps_4 : decode cL_keeps 4 = .ok (.invokevirtual 65, 3) := by decide +kernel
theorem dL_keeps_7 : decode cL_keeps 7 = .ok (.istore_n 1, 1) := by decide +kernel
theorem dL_keeps_8 : decode cL_keeps 8 = .ok (.iconst 0, 1) := by decide +kernel
theorem dL_keeps_9 : decode cL_keeps 9 = .ok (.istore_n 2, 1) := by decide +kernel
theorem dL_keeps_10 : decode cL_keeps 10 = .ok (.iconst 0, 1) := by decide +kernel
theorem dL_keeps_11 : decode cL_keeps 11 = .ok (.istore_n 3, 1) := by decide +kernel
theorem dL_keeps_12 : decode cL_keeps 12 = .ok (.iconst 4, 1) := by decide +kernel
theorem dL_keeps_13 : decode cL_keeps 13 = .ok (.newarray .int, 2) := by decide +kernel
theorem dL_keeps_15 : decode cL_keeps 15 = .ok (.astore 4, 2) := by decide +kernel
theorem dL_keeps_17 : decode cL_keeps 17 = .ok (.iconst 4, 1) := by decide +kernel
theorem dL_keeps_18 : decode cL_keeps 18 = .ok (.newarray .int, 2) := by decide +kernel
theorem dL_keeps_20 : decode cL_keeps 20 = .ok (.astore 5, 2) := by decide +kernel
theorem dL_keeps_22 : decode cL_keeps 22 = .ok (.iconst 0, 1) := by decide +kernel
theorem dL_keeps_23 : decode cL_keeps 23 = .ok (.istore 6, 2) := by decide +kernel
theorem dL_keeps_25 : decode cL_keeps 25 = .ok (.iload 6, 2) := by decide +kernel
theorem dL_keeps_27 : decode cL_keeps 27 = .ok (.iload_n 1, 1) := by decide +kernel
theorem dL_keeps_28 : decode cL_keeps 28 = .ok (.if_icmp .ge 368, 3) := by decide +kernel
theorem dL_keeps_31 : decode cL_keeps 31 = .ok (.aload_n 0, 1) := by decide +kernel
theorem dL_keeps_32 : decode cL_keeps 32 = .ok (.getfield 19, 3) := by decide +kernel
theorem dL_keeps_35 : decode cL_keeps 35 = .ok (.aload_n 0, 1) := by decide +kernel
theorem dL_keeps_36 : decode cL_keeps 36 = .ok (.getfield 10, 3) := by decide +kernel
theorem dL_keeps_39 : decode cL_keeps 39 = .ok (.iload 6, 2) := by decide +kernel
theorem dL_keeps_41 : decode cL_keeps 41 = .ok (.invokevirtual 183, 3) := by decide +kernel
theorem dL_keeps_44 : decode cL_keeps 44 = .ok (.invokevirtual 186, 3) := by decide +kernel
theorem dL_keeps_47 : decode cL_keeps 47 = .ok (.checkcast 190, 3) := by decide +kernel
theorem dL_keeps_50 : decode cL_keeps 50 = .ok (.astore 7, 2) := by decide +kernel
theorem dL_keeps_52 : decode cL_keeps 52 = .ok (.aload_n 0, 1) := by decide +kernel
theorem dL_keeps_53 : decode cL_keeps 53 = .ok (.getfield 10, 3) := by decide +kernel
theorem dL_keeps_56 : decode cL_keeps 56 = .ok (.invokevirtual 117, 3) := by decide +kernel
theorem dL_keeps_59 : decode cL_keeps 59 = .ok (.aload_n 0, 1) := by decide +kernel
theorem dL_keeps_60 : decode cL_keeps 60 = .ok (.getfield 10, 3) := by decide +kernel
theorem dL_keeps_63 : decode cL_keeps 63 = .ok (.iload 6, 2) := by decide +kernel
theorem dL_keeps_65 : decode cL_keeps 65 = .ok (.invokevirtual 114, 3) := by decide +kernel
theorem dL_keeps_68 : decode cL_keeps 68 = .ok (.isub, 1) := by decide +kernel
theorem dL_keeps_69 : decode cL_keeps 69 = .ok (.istore 8, 2) := by decide +kernel
theorem dL_keeps_71 : decode cL_keeps 71 = .ok (.aload_n 0, 1) := by decide +kernel
theorem dL_keeps_72 : decode cL_keeps 72 = .ok (.getfield 10, 3) := by decide +kernel
theorem dL_keeps_75 : decode cL_keeps 75 = .ok (.iload 6, 2) := by decide +kernel
theorem dL_keeps_77 : decode cL_keeps 77 = .ok (.invokevirtual 68, 3) := by decide +kernel
theorem dL_keeps_80 : decode cL_keeps 80 = .ok (.istore 9, 2) := by decide +kernel
theorem dL_keeps_82 : decode cL_keeps 82 = .ok (.aload_n 0, 1) := by decide +kernel
theorem dL_keeps_83 : decode cL_keeps 83 = .ok (.getfield 10, 3) := by decide +kernel
theorem dL_keeps_86 : decode cL_keeps 86 = .ok (.iload 6, 2) := by decide +kernel
theorem dL_keeps_88 : decode cL_keeps 88 = .ok (.invokevirtual 100, 3) := by decide +kernel
theorem dL_keeps_91 : decode cL_keeps 91 = .ok (.istore 10, 2) := by decide +kernel
theorem dL_keeps_93 : decode cL_keeps 93 = .ok (.iload_n 2, 1) := by decide +kernel
theorem dL_keeps_94 : decode cL_keeps 94 = .ok (.aload_n 0, 1) := by decide +kernel
theorem dL_keeps_95 : decode cL_keeps 95 = .ok (.getfield 10, 3) := by decide +kernel
theorem dL_keeps_98 : decode cL_keeps 98 = .ok (.iload 6, 2) := by decide +kernel
theorem dL_keeps_100 : decode cL_keeps 100 = .ok (.invokevirtual 165, 3) := by decide +kernel
theorem dL_keeps_103 : decode cL_keeps 103 = .ok (.aload 7, 2) := by decide +kernel
theorem dL_keeps_105 : decode cL_keeps 105 = .ok (.iconst 0, 1) := by decide +kernel
theorem dL_keeps_106 : decode cL_keeps 106 = .ok (.iaload, 1) := by decide +kernel
theorem dL_keeps_107 : decode cL_keeps 107 = .ok (.if_icmp .le 7, 3) := by decide +kernel
theorem dL_keeps_110 : decode cL_keeps 110 = .ok (.iconst 1, 1) := by decide +kernel
theorem dL_keeps_111 : decode cL_keeps 111 = .ok (.goto 4, 3) := by decide +kernel
theorem dL_keeps_114 : decode cL_keeps 114 = .ok (.iconst 0, 1) := by decide +kernel
theorem dL_keeps_115 : decode cL_keeps 115 = .ok (.iadd, 1) := by decide +kernel
theorem dL_keeps_116 : decode cL_keeps 116 = .ok (.istore_n 2, 1) := by decide +kernel
theorem dL_keeps_117 : decode cL_keeps 117 = .ok (.iload_n 3, 1) := by decide +kernel
theorem dL_keeps_118 : decode cL_keeps 118 = .ok (.aload_n 0, 1) := by decide +kernel
theorem dL_keeps_119 : decode cL_keeps 119 = .ok (.getfield 10, 3) := by decide +kernel
theorem dL_keeps_122 : decode cL_keeps 122 = .ok (.iload 6, 2) := by decide +kernel
theorem dL_keeps_124 : decode cL_keeps 124 = .ok (.invokevirtual 147, 3) := by decide +kernel
theorem dL_keeps_127 : decode cL_keeps 127 = .ok (.aload 7, 2) := by decide +kernel
theorem dL_keeps_129 : decode cL_keeps 129 = .ok (.iconst 1, 1) := by decide +kernel
theorem dL_keeps_130 : decode cL_keeps 130 = .ok (.iaload, 1) := by decide +kernel
theorem dL_keeps_131 : decode cL_keeps 131 = .ok (.if_icmp .le 7, 3) := by decide +kernel
theorem dL_keeps_134 : decode cL_keeps 134 = .ok (.iconst 1, 1) := by decide +kernel
theorem dL_keeps_135 : decode cL_keeps 135 = .ok (.goto 4, 3) := by decide +kernel
theorem dL_keeps_138 : decode cL_keeps 138 = .ok (.iconst 0, 1) := by decide +kernel
theorem dL_keeps_139 : decode cL_keeps 139 = .ok (.iadd, 1) := by decide +kernel
theorem dL_keeps_140 : decode cL_keeps 140 = .ok (.istore_n 3, 1) := by decide +kernel
theorem dL_keeps_141 : decode cL_keeps 141 = .ok (.aload_n 0, 1) := by decide +kernel
theorem dL_keeps_142 : decode cL_keeps 142 = .ok (.getfield 10, 3) := by decide +kernel
theorem dL_keeps_145 : decode cL_keeps 145 = .ok (.iload 6, 2) := by decide +kernel
theorem dL_keeps_147 : decode cL_keeps 147 = .ok (.invokevirtual 165, 3) := by decide +kernel
theorem dL_keeps_150 : decode cL_keeps 150 = .ok (.iload 8, 2) := by decide +kernel
theorem dL_keeps_152 : decode cL_keeps 152 = .ok (.if_icmp .gt 121, 3) := by decide +kernel
theorem dL_keeps_155 : decode cL_keeps 155 = .ok (.aload_n 0, 1) := by decide +kernel
theorem dL_keeps_156 : decode cL_keeps 156 = .ok (.getfield 10, 3) := by decide +kernel
theorem dL_keeps_159 : decode cL_keeps 159 = .ok (.iload 6, 2) := by decide +kernel
theorem dL_keeps_161 : decode cL_keeps 161 = .ok (.invokevirtual 147, 3) := by decide +kernel
theorem dL_keeps_164 : decode cL_keeps 164 = .ok (.iload 8, 2) := by decide +kernel
theorem dL_keeps_166 : decode cL_keeps 166 = .ok (.if_icmp .gt 107, 3) := by decide +kernel
theorem dL_keeps_169 : decode cL_keeps 169 = .ok (.aload_n 0, 1) := by decide +kernel
theorem dL_keeps_170 : decode cL_keeps 170 = .ok (.getfield 10, 3) := by decide +kernel
theorem dL_keeps_173 : decode cL_keeps 173 = .ok (.iload 6, 2) := by decide +kernel
theorem dL_keeps_175 : decode cL_keeps 175 = .ok (.invokevirtual 90, 3) := by decide +kernel
theorem dL_keeps_178 : decode cL_keeps 178 = .ok (.aload 7, 2) := by decide +kernel
theorem dL_keeps_180 : decode cL_keeps 180 = .ok (.iconst 2, 1) := by decide +kernel
theorem dL_keeps_181 : decode cL_keeps 181 = .ok (.iaload, 1) := by decide +kernel
theorem dL_keeps_182 : decode cL_keeps 182 = .ok (.if_icmp .gt 91, 3) := by decide +kernel
theorem dL_keeps_185 : decode cL_keeps 185 = .ok (.iload 9, 2) := by decide +kernel
theorem dL_keeps_187 : decode cL_keeps 187 = .ok (.iconst 3, 1) := by decide +kernel
theorem dL_keeps_188 : decode cL_keeps 188 = .ok (.if_icmp .eq 19, 3) := by decide +kernel
theorem dL_keeps_191 : decode cL_keeps 191 = .ok (.aload_n 0, 1) := by decide +kernel
theorem dL_keeps_192 : decode cL_keeps 192 = .ok (.getfield 10, 3) := by decide +kernel
theorem dL_keeps_195 : decode cL_keeps 195 = .ok (.iload 6, 2) := by decide +kernel
theorem dL_keeps_197 : decode cL_keeps 197 = .ok (.invokevirtual 90, 3) := by decide +kernel
theorem dL_keeps_200 : decode cL_keeps 200 = .ok (.aload 7, 2) := by decide +kernel
theorem dL_keeps_202 : decode cL_keeps 202 = .ok (.iconst 2, 1) := by decide +kernel
theorem dL_keeps_203 : decode cL_keeps 203 = .ok (.iaload, 1) := by decide +kernel
theorem dL_keeps_204 : decode cL_keeps 204 = .ok (.if_icmp .ge 69, 3) := by decide +kernel
theorem dL_keeps_207 : decode cL_keeps 207 = .ok (.iload 9, 2) := by decide +kernel
theorem dL_keeps_209 : decode cL_keeps 209 = .ok (.iconst 3, 1) := by decide +kernel
theorem dL_keeps_210 : decode cL_keeps 210 = .ok (.if_icmp .ne 7, 3) := by decide +kernel
theorem dL_keeps_213 : decode cL_keeps 213 = .ok (.iconst 1, 1) := by decide +kernel
theorem dL_keeps_214 : decode cL_keeps 214 = .ok (.goto 4, 3) := by decide +kernel
theorem dL_keeps_217 : decode cL_keeps 217 = .ok (.iconst 0, 1) := by decide +kernel
theorem dL_keeps_218 : decode cL_keeps 218 = .ok (.aload_n 0, 1) := by decide +kernel
theorem dL_keeps_219 : decode cL_keeps 219 = .ok (.getfield 10, 3) := by decide +kernel
theorem dL_keeps_222 : decode cL_keeps 222 = .ok (.iload 6, 2) := by decide +kernel
theorem dL_keeps_224 : decode cL_keeps 224 = .ok (.invokevirtual 123, 3) := by decide +kernel
theorem dL_keeps_227 : decode cL_keeps 227 = .ok (.ifCond .lt 7, 3) := by decide +kernel
theorem dL_keeps_230 : decode cL_keeps 230 = .ok (.iconst 1, 1) := by decide +kernel
theorem dL_keeps_231 : decode cL_keeps 231 = .ok (.goto 4, 3) := by decide +kernel
theorem dL_keeps_234 : decode cL_keeps 234 = .ok (.iconst 0, 1) := by decide +kernel
theorem dL_keeps_235 : decode cL_keeps 235 = .ok (.if_icmp .ne 38, 3) := by decide +kernel
theorem dL_keeps_238 : decode cL_keeps 238 = .ok (.iload 9, 2) := by decide +kernel
theorem dL_keeps_240 : decode cL_keeps 240 = .ok (.iconst 4, 1) := by decide +kernel
theorem dL_keeps_241 : decode cL_keeps 241 = .ok (.if_icmp .ne 21, 3) := by decide +kernel
theorem dL_keeps_244 : decode cL_keeps 244 = .ok (.iload 10, 2) := by decide +kernel
theorem dL_keeps_246 : decode cL_keeps 246 = .ok (.ifCond .lt 27, 3) := by decide +kernel
theorem dL_keeps_249 : decode cL_keeps 249 = .ok (.aload_n 0, 1) := by decide +kernel
theorem dL_keeps_250 : decode cL_keeps 250 = .ok (.getfield 10, 3) := by decide +kernel
theorem dL_keeps_253 : decode cL_keeps 253 = .ok (.iload 10, 2) := by decide +kernel
theorem dL_keeps_255 : decode cL_keeps 255 = .ok (.invokevirtual 68, 3) := by decide +kernel
theorem dL_keeps_258 : decode cL_keeps 258 = .ok (.iconst 2, 1) := by decide +kernel
theorem dL_keeps_259 : decode cL_keeps 259 = .ok (.if_icmp .gt 14, 3) := by decide +kernel
theorem dL_keeps_262 : decode cL_keeps 262 = .ok (.iload 9, 2) := by decide +kernel
theorem dL_keeps_264 : decode cL_keeps 264 = .ok (.iconst 3, 1) := by decide +kernel
theorem dL_keeps_265 : decode cL_keeps 265 = .ok (.if_icmp .ge 10, 3) := by decide +kernel
theorem dL_keeps_268 : decode cL_keeps 268 = .ok (.iload 10, 2) := by decide +kernel
theorem dL_keeps_270 : decode cL_keeps 270 = .ok (.ifCond .lt 5, 3) := by decide +kernel
theorem dL_keeps_273 : decode cL_keeps 273 = .ok (.iconst 0, 1) := by decide +kernel
theorem dL_keeps_274 : decode cL_keeps 274 = .ok (.ireturn, 1) := by decide +kernel
theorem dL_keeps_275 : decode cL_keeps 275 = .ok (.aload_n 0, 1) := by decide +kernel
theorem dL_keeps_276 : decode cL_keeps 276 = .ok (.getfield 10, 3) := by decide +kernel
theorem dL_keeps_279 : decode cL_keeps 279 = .ok (.iload 6, 2) := by decide +kernel
theorem dL_keeps_281 : decode cL_keeps 281 = .ok (.invokevirtual 120, 3) := by decide +kernel
theorem dL_keeps_284 : decode cL_keeps 284 = .ok (.ifCond .lt 43, 3) := by decide +kernel
theorem dL_keeps_287 : decode cL_keeps 287 = .ok (.aload_n 0, 1) := by decide +kernel
theorem dL_keeps_288 : decode cL_keeps 288 = .ok (.getfield 10, 3) := by decide +kernel
theorem dL_keeps_291 : decode cL_keeps 291 = .ok (.iload 6, 2) := by decide +kernel
theorem dL_keeps_293 : decode cL_keeps 293 = .ok (.invokevirtual 120, 3) := by decide +kernel
theorem dL_keeps_296 : decode cL_keeps 296 = .ok (.aload_n 0, 1) := by decide +kernel
theorem dL_keeps_297 : decode cL_keeps 297 = .ok (.getfield 10, 3) := by decide +kernel
theorem dL_keeps_300 : decode cL_keeps 300 = .ok (.iload 6, 2) := by decide +kernel
theorem dL_keeps_302 : decode cL_keeps 302 = .ok (.invokevirtual 114, 3) := by decide +kernel
theorem dL_keeps_305 : decode cL_keeps 305 = .ok (.if_icmp .lt 40, 3) := by decide +kernel
theorem dL_keeps_308 : decode cL_keeps 308 = .ok (.aload_n 0, 1) := by decide +kernel
theorem dL_keeps_309 : decode cL_keeps 309 = .ok (.getfield 10, 3) := by decide +kernel
theorem dL_keeps_312 : decode cL_keeps 312 = .ok (.iload 6, 2) := by decide +kernel
theorem dL_keeps_314 : decode cL_keeps 314 = .ok (.invokevirtual 120, 3) := by decide +kernel
theorem dL_keeps_317 : decode cL_keeps 317 = .ok (.aload_n 0, 1) := by decide +kernel
theorem dL_keeps_318 : decode cL_keeps 318 = .ok (.getfield 10, 3) := by decide +kernel
theorem dL_keeps_321 : decode cL_keeps 321 = .ok (.invokevirtual 117, 3) := by decide +kernel
theorem dL_keeps_324 : decode cL_keeps 324 = .ok (.if_icmp .gt 21, 3) := by decide +kernel
theorem dL_keeps_327 : decode cL_keeps 327 = .ok (.iload 9, 2) := by decide +kernel
theorem dL_keeps_329 : decode cL_keeps 329 = .ok (.iconst 1, 1) := by decide +kernel
theorem dL_keeps_330 : decode cL_keeps 330 = .ok (.if_icmp .ne 17, 3) := by decide +kernel
theorem dL_keeps_333 : decode cL_keeps 333 = .ok (.aload_n 0, 1) := by decide +kernel
theorem dL_keeps_334 : decode cL_keeps 334 = .ok (.getfield 10, 3) := by decide +kernel
theorem dL_keeps_337 : decode cL_keeps 337 = .ok (.iload 6, 2) := by decide +kernel
theorem dL_keeps_339 : decode cL_keeps 339 = .ok (.invokevirtual 120, 3) := by decide +kernel
theorem dL_keeps_342 : decode cL_keeps 342 = .ok (.ifCond .ge 5, 3) := by decide +kernel
theorem dL_keeps_345 : decode cL_keeps 345 = .ok (.iconst 0, 1) := by decide +kernel
theorem dL_keeps_346 : decode cL_keeps 346 = .ok (.ireturn, 1) := by decide +kernel
theorem dL_keeps_347 : decode cL_keeps 347 = .ok (.iload 9, 2) := by decide +kernel
theorem dL_keeps_349 : decode cL_keeps 349 = .ok (.ifCond .ne 19, 3) := by decide +kernel
theorem dL_keeps_352 : decode cL_keeps 352 = .ok (.aload 4, 2) := by decide +kernel
theorem dL_keeps_354 : decode cL_keeps 354 = .ok (.aload_n 0, 1) := by decide +kernel
theorem dL_keeps_355 : decode cL_keeps 355 = .ok (.getfield 10, 3) := by decide +kernel
theorem dL_keeps_358 : decode cL_keeps 358 = .ok (.iload 6, 2) := by decide +kernel
theorem dL_keeps_360 : decode cL_keeps 360 = .ok (.invokevirtual 84, 3) := by decide +kernel
theorem dL_keeps_363 : decode cL_keeps 363 = .ok (.dup2, 1) := by decide +kernel
theorem dL_keeps_364 : decode cL_keeps 364 = .ok (.iaload, 1) := by decide +kernel
theorem dL_keeps_365 : decode cL_keeps 365 = .ok (.iconst 1, 1) := by decide +kernel
theorem dL_keeps_366 : decode cL_keeps 366 = .ok (.iadd, 1) := by decide +kernel
theorem dL_keeps_367 : decode cL_keeps 367 = .ok (.iastore, 1) := by decide +kernel
theorem dL_keeps_368 : decode cL_keeps 368 = .ok (.iload 9, 2) := by decide +kernel
theorem dL_keeps_370 : decode cL_keeps 370 = .ok (.iconst 1, 1) := by decide +kernel
theorem dL_keeps_371 : decode cL_keeps 371 = .ok (.if_icmp .ne 19, 3) := by decide +kernel
theorem dL_keeps_374 : decode cL_keeps 374 = .ok (.aload 5, 2) := by decide +kernel
theorem dL_keeps_376 : decode cL_keeps 376 = .ok (.aload_n 0, 1) := by decide +kernel
theorem dL_keeps_377 : decode cL_keeps 377 = .ok (.getfield 10, 3) := by decide +kernel
theorem dL_keeps_380 : decode cL_keeps 380 = .ok (.iload 6, 2) := by decide +kernel
theorem dL_keeps_382 : decode cL_keeps 382 = .ok (.invokevirtual 84, 3) := by decide +kernel
theorem dL_keeps_385 : decode cL_keeps 385 = .ok (.dup2, 1) := by decide +kernel
theorem dL_keeps_386 : decode cL_keeps 386 = .ok (.iaload, 1) := by decide +kernel
theorem dL_keeps_387 : decode cL_keeps 387 = .ok (.iconst 1, 1) := by decide +kernel
theorem dL_keeps_388 : decode cL_keeps 388 = .ok (.iadd, 1) := by decide +kernel
theorem dL_keeps_389 : decode cL_keeps 389 = .ok (.iastore, 1) := by decide +kernel
theorem dL_keeps_390 : decode cL_keeps 390 = .ok (.iinc 6 1, 3) := by decide +kernel
theorem dL_keeps_393 : decode cL_keeps 393 = .ok (.goto (-368), 3) := by decide +kernel
theorem dL_keeps_396 : decode cL_keeps 396 = .ok (.iconst 0, 1) := by decide +kernel
theorem dL_keeps_397 : decode cL_keeps 397 = .ok (.istore 6, 2) := by decide +kernel
theorem dL_keeps_399 : decode cL_keeps 399 = .ok (.iload 6, 2) := by decide +kernel
theorem dL_keeps_401 : decode cL_keeps 401 = .ok (.iconst 4, 1) := by decide +kernel
theorem dL_keeps_402 : decode cL_keeps 402 = .ok (.if_icmp .ge 95, 3) := by decide +kernel
theorem dL_keeps_405 : decode cL_keeps 405 = .ok (.aload_n 0, 1) := by decide +kernel
theorem dL_keeps_406 : decode cL_keeps 406 = .ok (.getfield 10, 3) := by decide +kernel
theorem dL_keeps_409 : decode cL_keeps 409 = .ok (.iload 6, 2) := by decide +kernel
theorem dL_keeps_411 : decode cL_keeps 411 = .ok (.invokevirtual 195, 3) := by decide +kernel
theorem dL_keeps_414 : decode cL_keeps 414 = .ok (.aload 4, 2) := by decide +kernel
theorem dL_keeps_416 : decode cL_keeps 416 = .ok (.iload 6, 2) := by decide +kernel
theorem dL_keeps_418 : decode cL_keeps 418 = .ok (.iaload, 1) := by decide +kernel
theorem dL_keeps_419 : decode cL_keeps 419 = .ok (.if_icmp .ne 70, 3) := by decide +kernel
theorem dL_keeps_422 : decode cL_keeps 422 = .ok (.aload_n 0, 1) := by decide +kernel
theorem dL_keeps_423 : decode cL_keeps 423 = .ok (.getfield 10, 3) := by decide +kernel
theorem dL_keeps_426 : decode cL_keeps 426 = .ok (.iload 6, 2) := by decide +kernel
theorem dL_keeps_428 : decode cL_keeps 428 = .ok (.invokevirtual 198, 3) := by decide +kernel
theorem dL_keeps_431 : decode cL_keeps 431 = .ok (.aload 5, 2) := by decide +kernel
theorem dL_keeps_433 : decode cL_keeps 433 = .ok (.iload 6, 2) := by decide +kernel
theorem dL_keeps_435 : decode cL_keeps 435 = .ok (.iaload, 1) := by decide +kernel
theorem dL_keeps_436 : decode cL_keeps 436 = .ok (.if_icmp .ne 53, 3) := by decide +kernel
theorem dL_keeps_439 : decode cL_keeps 439 = .ok (.aload 5, 2) := by decide +kernel
theorem dL_keeps_441 : decode cL_keeps 441 = .ok (.iload 6, 2) := by decide +kernel
theorem dL_keeps_443 : decode cL_keeps 443 = .ok (.iaload, 1) := by decide +kernel
theorem dL_keeps_444 : decode cL_keeps 444 = .ok (.aload_n 0, 1) := by decide +kernel
theorem dL_keeps_445 : decode cL_keeps 445 = .ok (.getfield 10, 3) := by decide +kernel
theorem dL_keeps_448 : decode cL_keeps 448 = .ok (.iload 6, 2) := by decide +kernel
theorem dL_keeps_450 : decode cL_keeps 450 = .ok (.invokevirtual 201, 3) := by decide +kernel
theorem dL_keeps_453 : decode cL_keeps 453 = .ok (.if_icmp .gt 36, 3) := by decide +kernel
theorem dL_keeps_456 : decode cL_keeps 456 = .ok (.aload_n 0, 1) := by decide +kernel
theorem dL_keeps_457 : decode cL_keeps 457 = .ok (.getfield 10, 3) := by decide +kernel
theorem dL_keeps_460 : decode cL_keeps 460 = .ok (.iload 6, 2) := by decide +kernel
theorem dL_keeps_462 : decode cL_keeps 462 = .ok (.invokevirtual 204, 3) := by decide +kernel
theorem dL_keeps_465 : decode cL_keeps 465 = .ok (.ifCond .ge 7, 3) := by decide +kernel
theorem dL_keeps_468 : decode cL_keeps 468 = .ok (.iconst 1, 1) := by decide +kernel
theorem dL_keeps_469 : decode cL_keeps 469 = .ok (.goto 4, 3) := by decide +kernel
theorem dL_keeps_472 : decode cL_keeps 472 = .ok (.iconst 0, 1) := by decide +kernel
theorem dL_keeps_473 : decode cL_keeps 473 = .ok (.aload 4, 2) := by decide +kernel
theorem dL_keeps_475 : decode cL_keeps 475 = .ok (.iload 6, 2) := by decide +kernel
theorem dL_keeps_477 : decode cL_keeps 477 = .ok (.iaload, 1) := by decide +kernel
theorem dL_keeps_478 : decode cL_keeps 478 = .ok (.ifCond .ne 7, 3) := by decide +kernel
theorem dL_keeps_481 : decode cL_keeps 481 = .ok (.iconst 1, 1) := by decide +kernel
theorem dL_keeps_482 : decode cL_keeps 482 = .ok (.goto 4, 3) := by decide +kernel
theorem dL_keeps_485 : decode cL_keeps 485 = .ok (.iconst 0, 1) := by decide +kernel
theorem dL_keeps_486 : decode cL_keeps 486 = .ok (.if_icmp .eq 5, 3) := by decide +kernel
theorem dL_keeps_489 : decode cL_keeps 489 = .ok (.iconst 0, 1) := by decide +kernel
theorem dL_keeps_490 : decode cL_keeps 490 = .ok (.ireturn, 1) := by decide +kernel
theorem dL_keeps_491 : decode cL_keeps 491 = .ok (.iinc 6 1, 3) := by decide +kernel
theorem dL_keeps_494 : decode cL_keeps 494 = .ok (.goto (-95), 3) := by decide +kernel
theorem dL_keeps_497 : decode cL_keeps 497 = .ok (.aload_n 0, 1) := by decide +kernel
theorem dL_keeps_498 : decode cL_keeps 498 = .ok (.getfield 10, 3) := by decide +kernel
theorem dL_keeps_501 : decode cL_keeps 501 = .ok (.iconst (-1), 1) := by decide +kernel
theorem dL_keeps_502 : decode cL_keeps 502 = .ok (.invokevirtual 171, 3) := by decide +kernel
theorem dL_keeps_505 : decode cL_keeps 505 = .ok (.iload_n 2, 1) := by decide +kernel
theorem dL_keeps_506 : decode cL_keeps 506 = .ok (.if_icmp .ne 19, 3) := by decide +kernel
theorem dL_keeps_509 : decode cL_keeps 509 = .ok (.aload_n 0, 1) := by decide +kernel
theorem dL_keeps_510 : decode cL_keeps 510 = .ok (.getfield 10, 3) := by decide +kernel
theorem dL_keeps_513 : decode cL_keeps 513 = .ok (.iconst (-1), 1) := by decide +kernel
theorem dL_keeps_514 : decode cL_keeps 514 = .ok (.invokevirtual 174, 3) := by decide +kernel
theorem dL_keeps_517 : decode cL_keeps 517 = .ok (.iload_n 3, 1) := by decide +kernel
theorem dL_keeps_518 : decode cL_keeps 518 = .ok (.if_icmp .ne 7, 3) := by decide +kernel
theorem dL_keeps_521 : decode cL_keeps 521 = .ok (.iconst 1, 1) := by decide +kernel
theorem dL_keeps_522 : decode cL_keeps 522 = .ok (.goto 4, 3) := by decide +kernel
theorem dL_keeps_525 : decode cL_keeps 525 = .ok (.iconst 0, 1) := by decide +kernel
theorem dL_keeps_526 : decode cL_keeps 526 = .ok (.ireturn, 1) := by decide +kernel
theorem dL_logged_0 : decode cL_logged 0 = .ok (.aload_n 0, 1) := by decide +kernel
theorem dL_logged_1 : decode cL_logged 1 = .ok (.getfield 10, 3) := by decide +kernel
theorem dL_logged_4 : decode cL_logged 4 = .ok (.invokevirtual 65, 3) := by decide +kernel
theorem dL_logged_7 : decode cL_logged 7 = .ok (.istore_n 1, 1) := by decide +kernel
theorem dL_logged_8 : decode cL_logged 8 = .ok (.aload_n 0, 1) := by decide +kernel
theorem dL_logged_9 : decode cL_logged 9 = .ok (.getfield 10, 3) := by decide +kernel
theorem dL_logged_12 : decode cL_logged 12 = .ok (.invokevirtual 71, 3) := by decide +kernel
theorem dL_logged_15 : decode cL_logged 15 = .ok (.istore_n 2, 1) := by decide +kernel
theorem dL_logged_16 : decode cL_logged 16 = .ok (.iload_n 2, 1) := by decide +kernel
theorem dL_logged_17 : decode cL_logged 17 = .ok (.sipush 600, 3) := by decide +kernel
theorem dL_logged_20 : decode cL_logged 20 = .ok (.if_icmp .ne 5, 3) := by decide +kernel
theorem dL_logged_23 : decode cL_logged 23 = .ok (.iconst 1, 1) := by decide +kernel
theorem dL_logged_24 : decode cL_logged 24 = .ok (.ireturn, 1) := by decide +kernel
theorem dL_logged_25 : decode cL_logged 25 = .ok (.iload_n 1, 1) := by decide +kernel
theorem dL_logged_26 : decode cL_logged 26 = .ok (.newarray .int, 2) := by decide +kernel
theorem dL_logged_28 : decode cL_logged 28 = .ok (.astore_n 3, 1) := by decide +kernel
theorem dL_logged_29 : decode cL_logged 29 = .ok (.iconst 0, 1) := by decide +kernel
theorem dL_logged_30 : decode cL_logged 30 = .ok (.istore 4, 2) := by decide +kernel
theorem dL_logged_32 : decode cL_logged 32 = .ok (.iload 4, 2) := by decide +kernel
theorem dL_logged_34 : decode cL_logged 34 = .ok (.iload_n 1, 1) := by decide +kernel
theorem dL_logged_35 : decode cL_logged 35 = .ok (.if_icmp .ge 14, 3) := by decide +kernel
theorem dL_logged_38 : decode cL_logged 38 = .ok (.aload_n 3, 1) := by decide +kernel
theorem dL_logged_39 : decode cL_logged 39 = .ok (.iload 4, 2) := by decide +kernel
theorem dL_logged_41 : decode cL_logged 41 = .ok (.iconst (-1), 1) := by decide +kernel
theorem dL_logged_42 : decode cL_logged 42 = .ok (.iastore, 1) := by decide +kernel
theorem dL_logged_43 : decode cL_logged 43 = .ok (.iinc 4 1, 3) := by decide +kernel
theorem dL_logged_46 : decode cL_logged 46 = .ok (.goto (-14), 3) := by decide +kernel
theorem dL_logged_49 : decode cL_logged 49 = .ok (.iconst 0, 1) := by decide +kernel
theorem dL_logged_50 : decode cL_logged 50 = .ok (.istore 4, 2) := by decide +kernel
theorem dL_logged_52 : decode cL_logged 52 = .ok (.iload 4, 2) := by decide +kernel
theorem dL_logged_54 : decode cL_logged 54 = .ok (.iload_n 2, 1) := by decide +kernel
theorem dL_logged_55 : decode cL_logged 55 = .ok (.if_icmp .ge 72, 3) := by decide +kernel
theorem dL_logged_58 : decode cL_logged 58 = .ok (.iload 4, 2) := by decide +kernel
theorem dL_logged_60 : decode cL_logged 60 = .ok (.ifCond .le 28, 3) := by decide +kernel
theorem dL_logged_63 : decode cL_logged 63 = .ok (.aload_n 0, 1) := by decide +kernel
theorem dL_logged_64 : decode cL_logged 64 = .ok (.getfield 10, 3) := by decide +kernel
theorem dL_logged_67 : decode cL_logged 67 = .ok (.iload 4, 2) := by decide +kernel
theorem dL_logged_69 : decode cL_logged 69 = .ok (.invokevirtual 129, 3) := by decide +kernel
theorem dL_logged_72 : decode cL_logged 72 = .ok (.aload_n 0, 1) := by decide +kernel
theorem dL_logged_73 : decode cL_logged 73 = .ok (.getfield 10, 3) := by decide +kernel
theorem dL_logged_76 : decode cL_logged 76 = .ok (.iload 4, 2) := by decide +kernel
theorem dL_logged_78 : decode cL_logged 78 = .ok (.iconst 1, 1) := by decide +kernel
theorem dL_logged_79 : decode cL_logged 79 = .ok (.isub, 1) := by decide +kernel
theorem dL_logged_80 : decode cL_logged 80 = .ok (.invokevirtual 129, 3) := by decide +kernel
theorem dL_logged_83 : decode cL_logged 83 = .ok (.if_icmp .ge 5, 3) := by decide +kernel
theorem dL_logged_86 : decode cL_logged 86 = .ok (.iconst 0, 1) := by decide +kernel
theorem dL_logged_87 : decode cL_logged 87 = .ok (.ireturn, 1) := by decide +kernel
theorem dL_logged_88 : decode cL_logged 88 = .ok (.aload_n 0, 1) := by decide +kernel
theorem dL_logged_89 : decode cL_logged 89 = .ok (.getfield 10, 3) := by decide +kernel
theorem dL_logged_92 : decode cL_logged 92 = .ok (.iload 4, 2) := by decide +kernel
theorem dL_logged_94 : decode cL_logged 94 = .ok (.invokevirtual 132, 3) := by decide +kernel
theorem dL_logged_97 : decode cL_logged 97 = .ok (.iconst 5, 1) := by decide +kernel
theorem dL_logged_98 : decode cL_logged 98 = .ok (.if_icmp .ne 23, 3) := by decide +kernel
theorem dL_logged_101 : decode cL_logged 101 = .ok (.aload_n 3, 1) := by decide +kernel
theorem dL_logged_102 : decode cL_logged 102 = .ok (.aload_n 0, 1) := by decide +kernel
theorem dL_logged_103 : decode cL_logged 103 = .ok (.getfield 10, 3) := by decide +kernel
theorem dL_logged_106 : decode cL_logged 106 = .ok (.iload 4, 2) := by decide +kernel
theorem dL_logged_108 : decode cL_logged 108 = .ok (.invokevirtual 135, 3) := by decide +kernel
theorem dL_logged_111 : decode cL_logged 111 = .ok (.aload_n 0, 1) := by decide +kernel
theorem dL_logged_112 : decode cL_logged 112 = .ok (.getfield 10, 3) := by decide +kernel
theorem dL_logged_115 : decode cL_logged 115 = .ok (.iload 4, 2) := by decide +kernel
theorem dL_logged_117 : decode cL_logged 117 = .ok (.invokevirtual 129, 3) := by decide +kernel
theorem dL_logged_120 : decode cL_logged 120 = .ok (.iastore, 1) := by decide +kernel
theorem dL_logged_121 : decode cL_logged 121 = .ok (.iinc 4 1, 3) := by decide +kernel
theorem dL_logged_124 : decode cL_logged 124 = .ok (.goto (-72), 3) := by decide +kernel
theorem dL_logged_127 : decode cL_logged 127 = .ok (.iconst 0, 1) := by decide +kernel
theorem dL_logged_128 : decode cL_logged 128 = .ok (.istore 4, 2) := by decide +kernel
theorem dL_logged_130 : decode cL_logged 130 = .ok (.iload 4, 2) := by decide +kernel
theorem dL_logged_132 : decode cL_logged 132 = .ok (.iload_n 1, 1) := by decide +kernel
theorem dL_logged_133 : decode cL_logged 133 = .ok (.if_icmp .ge 40, 3) := by decide +kernel
theorem dL_logged_136 : decode cL_logged 136 = .ok (.aload_n 0, 1) := by decide +kernel
theorem dL_logged_137 : decode cL_logged 137 = .ok (.getfield 10, 3) := by decide +kernel
theorem dL_logged_140 : decode cL_logged 140 = .ok (.iload 4, 2) := by decide +kernel
theorem dL_logged_142 : decode cL_logged 142 = .ok (.invokevirtual 68, 3) := by decide +kernel
theorem dL_logged_145 : decode cL_logged 145 = .ok (.iconst 3, 1) := by decide +kernel
theorem dL_logged_146 : decode cL_logged 146 = .ok (.if_icmp .ne 21, 3) := by decide +kernel
theorem dL_logged_149 : decode cL_logged 149 = .ok (.aload_n 3, 1) := by decide +kernel
theorem dL_logged_150 : decode cL_logged 150 = .ok (.iload 4, 2) := by decide +kernel
theorem dL_logged_152 : decode cL_logged 152 = .ok (.iaload, 1) := by decide +kernel
theorem dL_logged_153 : decode cL_logged 153 = .ok (.aload_n 0, 1) := by decide +kernel
theorem dL_logged_154 : decode cL_logged 154 = .ok (.getfield 10, 3) := by decide +kernel
theorem dL_logged_157 : decode cL_logged 157 = .ok (.iload 4, 2) := by decide +kernel
theorem dL_logged_159 : decode cL_logged 159 = .ok (.invokevirtual 123, 3) := by decide +kernel
theorem dL_logged_162 : decode cL_logged 162 = .ok (.if_icmp .eq 5, 3) := by decide +kernel
theorem dL_logged_165 : decode cL_logged 165 = .ok (.iconst 0, 1) := by decide +kernel
theorem dL_logged_166 : decode cL_logged 166 = .ok (.ireturn, 1) := by decide +kernel
theorem dL_logged_167 : decode cL_logged 167 = .ok (.iinc 4 1, 3) := by decide +kernel
theorem dL_logged_170 : decode cL_logged 170 = .ok (.goto (-40), 3) := by decide +kernel
theorem dL_logged_173 : decode cL_logged 173 = .ok (.iconst 1, 1) := by decide +kernel
theorem dL_logged_174 : decode cL_logged 174 = .ok (.ireturn, 1) := by decide +kernel
theorem dL_law_0 : decode cL_law 0 = .ok (.new 11, 3) := by decide +kernel
theorem dL_law_3 : decode cL_law 3 = .ok (.dup, 1) := by decide +kernel
theorem dL_law_4 : decode cL_law 4 = .ok (.invokespecial 207, 3) := by decide +kernel
theorem dL_law_7 : decode cL_law 7 = .ok (.aload_n 0, 1) := by decide +kernel
theorem dL_law_8 : decode cL_law 8 = .ok (.invokevirtual 208, 3) := by decide +kernel
theorem dL_law_11 : decode cL_law 11 = .ok (.ireturn, 1) := by decide +kernel
theorem dL_holds_0 : decode cL_holds 0 = .ok (.aload_n 0, 1) := by decide +kernel
theorem dL_holds_1 : decode cL_holds 1 = .ok (.aload_n 1, 1) := by decide +kernel
theorem dL_holds_2 : decode cL_holds 2 = .ok (.putfield 25, 3) := by decide +kernel
theorem dL_holds_5 : decode cL_holds 5 = .ok (.aload_n 0, 1) := by decide +kernel
theorem dL_holds_6 : decode cL_holds 6 = .ok (.invokevirtual 212, 3) := by decide +kernel
theorem dL_holds_9 : decode cL_holds 9 = .ok (.ifCond .ne 5, 3) := by decide +kernel
theorem dL_holds_12 : decode cL_holds 12 = .ok (.iconst 0, 1) := by decide +kernel
theorem dL_holds_13 : decode cL_holds 13 = .ok (.ireturn, 1) := by decide +kernel
theorem dL_holds_14 : decode cL_holds 14 = .ok (.iconst 0, 1) := by decide +kernel
theorem dL_holds_15 : decode cL_holds 15 = .ok (.istore_n 2, 1) := by decide +kernel
theorem dL_holds_16 : decode cL_holds 16 = .ok (.iload_n 2, 1) := by decide +kernel
theorem dL_holds_17 : decode cL_holds 17 = .ok (.bipush 14, 2) := by decide +kernel
theorem dL_holds_19 : decode cL_holds 19 = .ok (.if_icmp .ge 218, 3) := by decide +kernel
theorem dL_holds_22 : decode cL_holds 22 = .ok (.aload_n 0, 1) := by decide +kernel
theorem dL_holds_23 : decode cL_holds 23 = .ok (.iconst 5, 1) := by decide +kernel
theorem dL_holds_24 : decode cL_holds 24 = .ok (.invokevirtual 46, 3) := by decide +kernel
theorem dL_holds_27 : decode cL_holds 27 = .ok (.istore_n 3, 1) := by decide +kernel
theorem dL_holds_28 : decode cL_holds 28 = .ok (.iload_n 3, 1) := by decide +kernel
theorem dL_holds_29 : decode cL_holds 29 = .ok (.ifCond .le 50, 3) := by decide +kernel
theorem dL_holds_32 : decode cL_holds 32 = .ok (.aload_n 0, 1) := by decide +kernel
theorem dL_holds_33 : decode cL_holds 33 = .ok (.getfield 10, 3) := by decide +kernel
theorem dL_holds_36 : decode cL_holds 36 = .ok (.invokevirtual 65, 3) := by decide +kernel
theorem dL_holds_39 : decode cL_holds 39 = .ok (.bipush 60, 2) := by decide +kernel
theorem dL_holds_41 : decode cL_holds 41 = .ok (.if_icmp .ge 38, 3) := by decide +kernel
theorem dL_holds_44 : decode cL_holds 44 = .ok (.aload_n 0, 1) := by decide +kernel
theorem dL_holds_45 : decode cL_holds 45 = .ok (.getfield 10, 3) := by decide +kernel
theorem dL_holds_48 : decode cL_holds 48 = .ok (.invokevirtual 215, 3) := by decide +kernel
theorem dL_holds_51 : decode cL_holds 51 = .ok (.sipush 190, 3) := by decide +kernel
theorem dL_holds_54 : decode cL_holds 54 = .ok (.if_icmp .ge 25, 3) := by decide +kernel
theorem dL_holds_57 : decode cL_holds 57 = .ok (.aload_n 0, 1) := by decide +kernel
theorem dL_holds_58 : decode cL_holds 58 = .ok (.invokevirtual 218, 3) := by decide +kernel
theorem dL_holds_61 : decode cL_holds 61 = .ok (.ifCond .eq 10, 3) := by decide +kernel
theorem dL_holds_64 : decode cL_holds 64 = .ok (.aload_n 0, 1) := by decide +kernel
theorem dL_holds_65 : decode cL_holds 65 = .ok (.invokevirtual 191, 3) := by decide +kernel
theorem dL_holds_68 : decode cL_holds 68 = .ok (.ifCond .ne 5, 3) := by decide +kernel
theorem dL_holds_71 : decode cL_holds 71 = .ok (.iconst 0, 1) := by decide +kernel
theorem dL_holds_72 : decode cL_holds 72 = .ok (.ireturn, 1) := by decide +kernel
theorem dL_holds_73 : decode cL_holds 73 = .ok (.iinc 3 (-1), 3) := by decide +kernel
theorem dL_holds_76 : decode cL_holds 76 = .ok (.goto (-48), 3) := by decide +kernel
theorem dL_holds_79 : decode cL_holds 79 = .ok (.aload_n 0, 1) := by decide +kernel
theorem dL_holds_80 : decode cL_holds 80 = .ok (.invokevirtual 221, 3) := by decide +kernel
theorem dL_holds_83 : decode cL_holds 83 = .ok (.ifCond .eq 10, 3) := by decide +kernel
theorem dL_holds_86 : decode cL_holds 86 = .ok (.aload_n 0, 1) := by decide +kernel
theorem dL_holds_87 : decode cL_holds 87 = .ok (.invokevirtual 224, 3) := by decide +kernel
theorem dL_holds_90 : decode cL_holds 90 = .ok (.ifCond .ne 5, 3) := by decide +kernel
theorem dL_holds_93 : decode cL_holds 93 = .ok (.iconst 0, 1) := by decide +kernel
theorem dL_holds_94 : decode cL_holds 94 = .ok (.ireturn, 1) := by decide +kernel
theorem dL_holds_95 : decode cL_holds 95 = .ok (.iload_n 2, 1) := by decide +kernel
theorem dL_holds_96 : decode cL_holds 96 = .ok (.iconst 5, 1) := by decide +kernel
theorem dL_holds_97 : decode cL_holds 97 = .ok (.irem, 1) := by decide +kernel
theorem dL_holds_98 : decode cL_holds 98 = .ok (.iconst 2, 1) := by decide +kernel
theorem dL_holds_99 : decode cL_holds 99 = .ok (.if_icmp .eq 6, 3) := by decide +kernel
theorem dL_holds_102 : decode cL_holds 102 = .ok (.goto 129, 3) := by decide +kernel
theorem dL_holds_105 : decode cL_holds 105 = .ok (.aload_n 0, 1) := by decide +kernel
theorem dL_holds_106 : decode cL_holds 106 = .ok (.getfield 10, 3) := by decide +kernel
theorem dL_holds_109 : decode cL_holds 109 = .ok (.invokevirtual 117, 3) := by decide +kernel
theorem dL_holds_112 : decode cL_holds 112 = .ok (.istore_n 3, 1) := by decide +kernel
theorem dL_holds_113 : decode cL_holds 113 = .ok (.aload_n 0, 1) := by decide +kernel
theorem dL_holds_114 : decode cL_holds 114 = .ok (.getfield 10, 3) := by decide +kernel
theorem dL_holds_117 : decode cL_holds 117 = .ok (.invokevirtual 71, 3) := by decide +kernel
theorem dL_holds_120 : decode cL_holds 120 = .ok (.istore 4, 2) := by decide +kernel
theorem dL_holds_122 : decode cL_holds 122 = .ok (.aload_n 0, 1) := by decide +kernel
theorem dL_holds_123 : decode cL_holds 123 = .ok (.getfield 10, 3) := by decide +kernel
theorem dL_holds_126 : decode cL_holds 126 = .ok (.invokevirtual 215, 3) := by decide +kernel
theorem dL_holds_129 : decode cL_holds 129 = .ok (.istore 5, 2) := by decide +kernel
theorem dL_holds_131 : decode cL_holds 131 = .ok (.aload_n 0, 1) := by decide +kernel
theorem dL_holds_132 : decode cL_holds 132 = .ok (.getfield 10, 3) := by decide +kernel
theorem dL_holds_135 : decode cL_holds 135 = .ok (.iconst 0, 1) := by decide +kernel
theorem dL_holds_136 : decode cL_holds 136 = .ok (.invokevirtual 227, 3) := by decide +kernel
theorem dL_holds_139 : decode cL_holds 139 = .ok (.ifCond .eq 90, 3) := by decide +kernel
theorem dL_holds_142 : decode cL_holds 142 = .ok (.aload_n 0, 1) := by decide +kernel
theorem dL_holds_143 : decode cL_holds 143 = .ok (.getfield 10, 3) := by decide +kernel
theorem dL_holds_146 : decode cL_holds 146 = .ok (.iconst 0, 1) := by decide +kernel
theorem dL_holds_147 : decode cL_holds 147 = .ok (.iconst 1, 1) := by decide +kernel
theorem dL_holds_148 : decode cL_holds 148 = .ok (.iconst 1, 1) := by decide +kernel
theorem dL_holds_149 : decode cL_holds 149 = .ok (.iconst 1, 1) := by decide +kernel
theorem dL_holds_150 : decode cL_holds 150 = .ok (.invokevirtual 110, 3) := by decide +kernel
theorem dL_holds_153 : decode cL_holds 153 = .ok (.bipush (-6), 2) := by decide +kernel
theorem dL_holds_155 : decode cL_holds 155 = .ok (.if_icmp .lt 74, 3) := by decide +kernel
theorem dL_holds_158 : decode cL_holds 158 = .ok (.iload_n 3, 1) := by decide +kernel
theorem dL_holds_159 : decode cL_holds 159 = .ok (.sipush 10080, 3) := by decide +kernel
theorem dL_holds_162 : decode cL_holds 162 = .ok (.if_icmp .ge 14, 3) := by decide +kernel
theorem dL_holds_165 : decode cL_holds 165 = .ok (.aload_n 0, 1) := by decide +kernel
theorem dL_holds_166 : decode cL_holds 166 = .ok (.getfield 10, 3) := by decide +kernel
theorem dL_holds_169 : decode cL_holds 169 = .ok (.iconst 1, 1) := by decide +kernel
theorem dL_holds_170 : decode cL_holds 170 = .ok (.invokevirtual 177, 3) := by decide +kernel
theorem dL_holds_173 : decode cL_holds 173 = .ok (.ifCond .lt 56, 3) := by decide +kernel
theorem dL_holds_176 : decode cL_holds 176 = .ok (.aload_n 0, 1) := by decide +kernel
theorem dL_holds_177 : decode cL_holds 177 = .ok (.getfield 10, 3) := by decide +kernel
theorem dL_holds_180 : decode cL_holds 180 = .ok (.iconst 0, 1) := by decide +kernel
theorem dL_holds_181 : decode cL_holds 181 = .ok (.invokevirtual 231, 3) := by decide +kernel
theorem dL_holds_184 : decode cL_holds 184 = .ok (.ifCond .eq 45, 3) := by decide +kernel
theorem dL_holds_187 : decode cL_holds 187 = .ok (.aload_n 0, 1) := by decide +kernel
theorem dL_holds_188 : decode cL_holds 188 = .ok (.getfield 10, 3) := by decide +kernel
theorem dL_holds_191 : decode cL_holds 191 = .ok (.invokevirtual 117, 3) := by decide +kernel
theorem dL_holds_194 : decode cL_holds 194 = .ok (.iload_n 3, 1) := by decide +kernel
theorem dL_holds_195 : decode cL_holds 195 = .ok (.if_icmp .ne 34, 3) := by decide +kernel
theorem dL_holds_198 : decode cL_holds 198 = .ok (.aload_n 0, 1) := by decide +kernel
theorem dL_holds_199 : decode cL_holds 199 = .ok (.getfield 10, 3) := by decide +kernel
theorem dL_holds_202 : decode cL_holds 202 = .ok (.invokevirtual 71, 3) := by decide +kernel
theorem dL_holds_205 : decode cL_holds 205 = .ok (.iload 4, 2) := by decide +kernel
theorem dL_holds_207 : decode cL_holds 207 = .ok (.if_icmp .ne 22, 3) := by decide +kernel
theorem dL_holds_210 : decode cL_holds 210 = .ok (.aload_n 0, 1) := by decide +kernel
theorem dL_holds_211 : decode cL_holds 211 = .ok (.getfield 10, 3) := by decide +kernel
theorem dL_holds_214 : decode cL_holds 214 = .ok (.invokevirtual 215, 3) := by decide +kernel
theorem dL_holds_217 : decode cL_holds 217 = .ok (.iload 5, 2) := by decide +kernel
theorem dL_holds_219 : decode cL_holds 219 = .ok (.if_icmp .ne 10, 3) := by decide +kernel
theorem dL_holds_222 : decode cL_holds 222 = .ok (.aload_n 0, 1) := by decide +kernel
theorem dL_holds_223 : decode cL_holds 223 = .ok (.invokevirtual 191, 3) := by decide +kernel
theorem dL_holds_226 : decode cL_holds 226 = .ok (.ifCond .ne 5, 3) := by decide +kernel
theorem dL_holds_229 : decode cL_holds 229 = .ok (.iconst 0, 1) := by decide +kernel
theorem dL_holds_230 : decode cL_holds 230 = .ok (.ireturn, 1) := by decide +kernel
theorem dL_holds_231 : decode cL_holds 231 = .ok (.iinc 2 1, 3) := by decide +kernel
theorem dL_holds_234 : decode cL_holds 234 = .ok (.goto (-218), 3) := by decide +kernel
theorem dL_holds_237 : decode cL_holds 237 = .ok (.iconst 1, 1) := by decide +kernel
theorem dL_holds_238 : decode cL_holds 238 = .ok (.ireturn, 1) := by decide +kernel
