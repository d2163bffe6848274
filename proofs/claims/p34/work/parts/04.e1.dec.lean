theorem dL_built_275 : decode cL_built 275 = .ok (.ifCond .eq 8, 3) := by decide +kernel
theorem dL_built_278 : decode cL_built 278 = .ok (.lload 21, 2) := by decide +kernel
theorem dL_built_280 : decode cL_built 280 = .ok (.goto 4, 3) := by decide +kernel
theorem dL_built_283 : decode cL_built 283 = .ok (.lconst 0, 1) := by decide +kernel
theorem dL_built_284 : decode cL_built 284 = .ok (.lcmp, 1) := by decide +kernel
theorem dL_built_285 : decode cL_built 285 = .ok (.ifCond .ne 75, 3) := by decide +kernel
theorem dL_built_288 : decode cL_built 288 = .ok (.aload_n 0, 1) := by decide +kernel
theorem dL_built_289 : decode cL_built 289 = .ok (.iload 15, 2) := by decide +kernel
theorem dL_built_291 : decode cL_built 291 = .ok (.iconst 2, 1) := by decide +kernel
theorem dL_built_292 : decode cL_built 292 = .ok (.invokestatic 124, 3) := by decide +kernel
theorem dL_built_295 : decode cL_built 295 = .ok (.lload 24, 2) := by decide +kernel
theorem dL_built_297 : decode cL_built 297 = .ok (.lcmp, 1) := by decide +kernel
theorem dL_built_298 : decode cL_built 298 = .ok (.ifCond .ne 62, 3) := by decide +kernel
theorem dL_built_301 : decode cL_built 301 = .ok (.aload_n 0, 1) := by decide +kernel
theorem dL_built_302 : decode cL_built 302 = .ok (.iload 15, 2) := by decide +kernel
theorem dL_built_304 : decode cL_built 304 = .ok (.iconst 4, 1) := by decide +kernel
theorem dL_built_305 : decode cL_built 305 = .ok (.invokestatic 124, 3) := by decide +kernel
theorem dL_built_308 : decode cL_built 308 = .ok (.lload 26, 2) := by decide +kernel
theorem dL_built_310 : decode cL_built 310 = .ok (.lcmp, 1) := by decide +kernel
theorem dL_built_311 : decode cL_built 311 = .ok (.ifCond .ne 49, 3) := by decide +kernel
theorem dL_built_314 : decode cL_built 314 = .ok (.lload 18, 2) := by decide +kernel
theorem dL_built_316 : decode cL_built 316 = .ok (.lconst 0, 1) := by decide +kernel
theorem dL_built_317 : decode cL_built 317 = .ok (.lcmp, 1) := by decide +kernel
theorem dL_built_318 : decode cL_built 318 = .ok (.ifCond .eq 13, 3) := by decide +kernel
theorem dL_built_321 : decode cL_built 321 = .ok (.lload 18, 2) := by decide +kernel
theorem dL_built_323 : decode cL_built 323 = .ok (.lload 16, 2) := by decide +kernel
theorem dL_built_325 : decode cL_built 325 = .ok (.ladd, 1) := by decide +kernel
theorem dL_built_326 : decode cL_built 326 = .ok (.lload_n 2, 1) := by decide +kernel
theorem dL_built_327 : decode cL_built 327 = .ok (.lcmp, 1) := by decide +kernel
theorem dL_built_328 : decode cL_built 328 = .ok (.ifCond .gt 32, 3) := by decide +kernel
theorem dL_built_331 : decode cL_built 331 = .ok (.aload_n 0, 1) := by decide +kernel
theorem dL_built_332 : decode cL_built 332 = .ok (.iload 15, 2) := by decide +kernel
theorem dL_built_334 : decode cL_built 334 = .ok (.bipush 7, 2) := by decide +kernel
theorem dL_built_336 : decode cL_built 336 = .ok (.invokestatic 124, 3) := by decide +kernel
theorem dL_built_339 : decode cL_built 339 = .ok (.lconst 0, 1) := by decide +kernel
theorem dL_built_340 : decode cL_built 340 = .ok (.lcmp, 1) := by decide +kernel
theorem dL_built_341 : decode cL_built 341 = .ok (.ifCond .eq 15, 3) := by decide +kernel
theorem dL_built_344 : decode cL_built 344 = .ok (.aload_n 0, 1) := by decide +kernel
theorem dL_built_345 : decode cL_built 345 = .ok (.iload 15, 2) := by decide +kernel
theorem dL_built_347 : decode cL_built 347 = .ok (.iconst 5, 1) := by decide +kernel
theorem dL_built_348 : decode cL_built 348 = .ok (.invokestatic 124, 3) := by decide +kernel
theorem dL_built_351 : decode cL_built 351 = .ok (.lconst 1, 1) := by decide +kernel
theorem dL_built_352 : decode cL_built 352 = .ok (.lcmp, 1) := by decide +kernel
theorem dL_built_353 : decode cL_built 353 = .ok (.ifCond .ne 7, 3) := by decide +kernel
theorem dL_built_356 : decode cL_built 356 = .ok (.iconst 1, 1) := by decide +kernel
theorem dL_built_357 : decode cL_built 357 = .ok (.goto 4, 3) := by decide +kernel
theorem dL_built_360 : decode cL_built 360 = .ok (.iconst 0, 1) := by decide +kernel
theorem dL_built_361 : decode cL_built 361 = .ok (.istore 14, 2) := by decide +kernel
theorem dL_built_363 : decode cL_built 363 = .ok (.aload_n 0, 1) := by decide +kernel
theorem dL_built_364 : decode cL_built 364 = .ok (.iload 15, 2) := by decide +kernel
theorem dL_built_366 : decode cL_built 366 = .ok (.iconst 0, 1) := by decide +kernel
theorem dL_built_367 : decode cL_built 367 = .ok (.invokestatic 124, 3) := by decide +kernel
theorem dL_built_370 : decode cL_built 370 = .ok (.lconst 1, 1) := by decide +kernel
theorem dL_built_371 : decode cL_built 371 = .ok (.lsub, 1) := by decide +kernel
theorem dL_built_372 : decode cL_built 372 = .ok (.lstore 28, 2) := by decide +kernel
theorem dL_built_374 : decode cL_built 374 = .ok (.lload 28, 2) := by decide +kernel
theorem dL_built_376 : decode cL_built 376 = .ok (.lstore 30, 2) := by decide +kernel
theorem dL_built_378 : decode cL_built 378 = .ok (.iconst 0, 1) := by decide +kernel
theorem dL_built_379 : decode cL_built 379 = .ok (.istore 32, 2) := by decide +kernel
theorem dL_built_381 : decode cL_built 381 = .ok (.iload 32, 2) := by decide +kernel
theorem dL_built_383 : decode cL_built 383 = .ok (.i2l, 1) := by decide +kernel
theorem dL_built_384 : decode cL_built 384 = .ok (.aload_n 0, 1) := by decide +kernel
theorem dL_built_385 : decode cL_built 385 = .ok (.iload 15, 2) := by decide +kernel
theorem dL_built_387 : decode cL_built 387 = .ok (.iconst 0, 1) := by decide +kernel
theorem dL_built_388 : decode cL_built 388 = .ok (.invokestatic 124, 3) := by decide +kernel
theorem dL_built_391 : decode cL_built 391 = .ok (.lcmp, 1) := by decide +kernel
theorem dL_built_392 : decode cL_built 392 = .ok (.ifCond .ge 247, 3) := by decide +kernel
theorem dL_built_395 : decode cL_built 395 = .ok (.iload 14, 2) := by decide +kernel
theorem dL_built_397 : decode cL_built 397 = .ok (.ifCond .eq 242, 3) := by decide +kernel
theorem dL_built_400 : decode cL_built 400 = .ok (.aload_n 0, 1) := by decide +kernel
theorem dL_built_401 : decode cL_built 401 = .ok (.iload 15, 2) := by decide +kernel
theorem dL_built_403 : decode cL_built 403 = .ok (.iload 32, 2) := by decide +kernel
theorem dL_built_405 : decode cL_built 405 = .ok (.iconst 0, 1) := by decide +kernel
theorem dL_built_406 : decode cL_built 406 = .ok (.invokestatic 134, 3) := by decide +kernel
theorem dL_built_409 : decode cL_built 409 = .ok (.lstore 33, 2) := by decide +kernel
theorem dL_built_411 : decode cL_built 411 = .ok (.aload_n 0, 1) := by decide +kernel
theorem dL_built_412 : decode cL_built 412 = .ok (.iload 15, 2) := by decide +kernel
theorem dL_built_414 : decode cL_built 414 = .ok (.iload 32, 2) := by decide +kernel
theorem dL_built_416 : decode cL_built 416 = .ok (.iconst 1, 1) := by decide +kernel
theorem dL_built_417 : decode cL_built 417 = .ok (.invokestatic 134, 3) := by decide +kernel
theorem dL_built_420 : decode cL_built 420 = .ok (.lstore 35, 2) := by decide +kernel
theorem dL_built_422 : decode cL_built 422 = .ok (.lload 28, 2) := by decide +kernel
theorem dL_built_424 : decode cL_built 424 = .ok (.lload 33, 2) := by decide +kernel
theorem dL_built_426 : decode cL_built 426 = .ok (.ladd, 1) := by decide +kernel
theorem dL_built_427 : decode cL_built 427 = .ok (.lstore 28, 2) := by decide +kernel
theorem dL_built_429 : decode cL_built 429 = .ok (.lload 30, 2) := by decide +kernel
theorem dL_built_431 : decode cL_built 431 = .ok (.lload 33, 2) := by decide +kernel
theorem dL_built_433 : decode cL_built 433 = .ok (.lload 35, 2) := by decide +kernel
theorem dL_built_435 : decode cL_built 435 = .ok (.ladd, 1) := by decide +kernel
theorem dL_built_436 : decode cL_built 436 = .ok (.lconst 1, 1) := by decide +kernel
theorem dL_built_437 : decode cL_built 437 = .ok (.ladd, 1) := by decide +kernel
theorem dL_built_438 : decode cL_built 438 = .ok (.ladd, 1) := by decide +kernel
theorem dL_built_439 : decode cL_built 439 = .ok (.lstore 30, 2) := by decide +kernel
theorem dL_built_441 : decode cL_built 441 = .ok (.lload 33, 2) := by decide +kernel
theorem dL_built_443 : decode cL_built 443 = .ok (.lconst 1, 1) := by decide +kernel
theorem dL_built_444 : decode cL_built 444 = .ok (.ldc2_w 198, 3) := by decide +kernel
theorem dL_built_447 : decode cL_built 447 = .ok (.invokestatic 200, 3) := by decide +kernel
theorem dL_built_450 : decode cL_built 450 = .ok (.ifCond .eq 180, 3) := by decide +kernel
theorem dL_built_453 : decode cL_built 453 = .ok (.lload 35, 2) := by decide +kernel
theorem dL_built_455 : decode cL_built 455 = .ok (.lconst 0, 1) := by decide +kernel
theorem dL_built_456 : decode cL_built 456 = .ok (.ldc2_w 198, 3) := by decide +kernel
theorem dL_built_459 : decode cL_built 459 = .ok (.invokestatic 200, 3) := by decide +kernel
theorem dL_built_462 : decode cL_built 462 = .ok (.ifCond .eq 168, 3) := by decide +kernel
theorem dL_built_465 : decode cL_built 465 = .ok (.aload_n 0, 1) := by decide +kernel
theorem dL_built_466 : decode cL_built 466 = .ok (.iload 15, 2) := by decide +kernel
theorem dL_built_468 : decode cL_built 468 = .ok (.iload 32, 2) := by decide +kernel
theorem dL_built_470 : decode cL_built 470 = .ok (.iconst 0, 1) := by decide +kernel
theorem dL_built_471 : decode cL_built 471 = .ok (.lload 33, 2) := by decide +kernel
theorem dL_built_473 : decode cL_built 473 = .ok (.l2i, 1) := by decide +kernel
theorem dL_built_474 : decode cL_built 474 = .ok (.invokestatic 127, 3) := by decide +kernel
theorem dL_built_477 : decode cL_built 477 = .ok (.ldc2_w 204, 3) := by decide +kernel
theorem dL_built_480 : decode cL_built 480 = .ok (.lcmp, 1) := by decide +kernel
theorem dL_built_481 : decode cL_built 481 = .ok (.ifCond .ne 149, 3) := by decide +kernel
theorem dL_built_484 : decode cL_built 484 = .ok (.aload_n 0, 1) := by decide +kernel
theorem dL_built_485 : decode cL_built 485 = .ok (.iload 15, 2) := by decide +kernel
theorem dL_built_487 : decode cL_built 487 = .ok (.iload 32, 2) := by decide +kernel
theorem dL_built_489 : decode cL_built 489 = .ok (.iconst 0, 1) := by decide +kernel
theorem dL_built_490 : decode cL_built 490 = .ok (.lload 33, 2) := by decide +kernel
theorem dL_built_492 : decode cL_built 492 = .ok (.l2i, 1) := by decide +kernel
theorem dL_built_493 : decode cL_built 493 = .ok (.iconst 1, 1) := by decide +kernel
theorem dL_built_494 : decode cL_built 494 = .ok (.isub, 1) := by decide +kernel
theorem dL_built_495 : decode cL_built 495 = .ok (.invokestatic 127, 3) := by decide +kernel
theorem dL_built_498 : decode cL_built 498 = .ok (.ldc2_w 204, 3) := by decide +kernel
theorem dL_built_501 : decode cL_built 501 = .ok (.lcmp, 1) := by decide +kernel
theorem dL_built_502 : decode cL_built 502 = .ok (.ifCond .eq 128, 3) := by decide +kernel
theorem dL_built_505 : decode cL_built 505 = .ok (.aload_n 0, 1) := by decide +kernel
theorem dL_built_506 : decode cL_built 506 = .ok (.iload 15, 2) := by decide +kernel
theorem dL_built_508 : decode cL_built 508 = .ok (.iload 32, 2) := by decide +kernel
theorem dL_built_510 : decode cL_built 510 = .ok (.iconst 1, 1) := by decide +kernel
theorem dL_built_511 : decode cL_built 511 = .ok (.lload 35, 2) := by decide +kernel
theorem dL_built_513 : decode cL_built 513 = .ok (.l2i, 1) := by decide +kernel
theorem dL_built_514 : decode cL_built 514 = .ok (.invokestatic 127, 3) := by decide +kernel
theorem dL_built_517 : decode cL_built 517 = .ok (.ldc2_w 204, 3) := by decide +kernel
theorem dL_built_520 : decode cL_built 520 = .ok (.lcmp, 1) := by decide +kernel
theorem dL_built_521 : decode cL_built 521 = .ok (.ifCond .ne 109, 3) := by decide +kernel
theorem dL_built_524 : decode cL_built 524 = .ok (.aload_n 0, 1) := by decide +kernel
theorem dL_built_525 : decode cL_built 525 = .ok (.iload 15, 2) := by decide +kernel
theorem dL_built_527 : decode cL_built 527 = .ok (.iload 32, 2) := by decide +kernel
theorem dL_built_529 : decode cL_built 529 = .ok (.iconst 3, 1) := by decide +kernel
theorem dL_built_530 : decode cL_built 530 = .ok (.invokestatic 134, 3) := by decide +kernel
theorem dL_built_533 : decode cL_built 533 = .ok (.ldc2_w 204, 3) := by decide +kernel
theorem dL_built_536 : decode cL_built 536 = .ok (.lcmp, 1) := by decide +kernel
theorem dL_built_537 : decode cL_built 537 = .ok (.ifCond .eq 33, 3) := by decide +kernel
theorem dL_built_540 : decode cL_built 540 = .ok (.aload_n 0, 1) := by decide +kernel
theorem dL_built_541 : decode cL_built 541 = .ok (.aload_n 0, 1) := by decide +kernel
theorem dL_built_542 : decode cL_built 542 = .ok (.iload 15, 2) := by decide +kernel
theorem dL_built_544 : decode cL_built 544 = .ok (.iload 32, 2) := by decide +kernel
theorem dL_built_546 : decode cL_built 546 = .ok (.iconst 3, 1) := by decide +kernel
theorem dL_built_547 : decode cL_built 547 = .ok (.invokestatic 134, 3) := by decide +kernel
theorem dL_built_550 : decode cL_built 550 = .ok (.l2i, 1) := by decide +kernel
theorem dL_built_551 : decode cL_built 551 = .ok (.iconst 0, 1) := by decide +kernel
theorem dL_built_552 : decode cL_built 552 = .ok (.iconst 0, 1) := by decide +kernel
theorem dL_built_553 : decode cL_built 553 = .ok (.invokestatic 139, 3) := by decide +kernel
theorem dL_built_556 : decode cL_built 556 = .ok (.aload_n 0, 1) := by decide +kernel
theorem dL_built_557 : decode cL_built 557 = .ok (.iload 15, 2) := by decide +kernel
theorem dL_built_559 : decode cL_built 559 = .ok (.iload 32, 2) := by decide +kernel
theorem dL_built_561 : decode cL_built 561 = .ok (.iconst 0, 1) := by decide +kernel
theorem dL_built_562 : decode cL_built 562 = .ok (.iconst 0, 1) := by decide +kernel
