theorem dX1_isSame_274 : decode cX1_isSame 274 = .ok (.iconst 1, 1) := by decide +kernel
theorem dX1_isSame_275 : decode cX1_isSame 275 = .ok (.iastore, 1) := by decide +kernel
theorem dX1_isSame_276 : decode cX1_isSame 276 = .ok (.aload 11, 2) := by decide +kernel
theorem dX1_isSame_278 : decode cX1_isSame 278 = .ok (.iload 4, 2) := by decide +kernel
theorem dX1_isSame_280 : decode cX1_isSame 280 = .ok (.aaload, 1) := by decide +kernel
theorem dX1_isSame_281 : decode cX1_isSame 281 = .ok (.aload_n 2, 1) := by decide +kernel
theorem dX1_isSame_282 : decode cX1_isSame 282 = .ok (.iload 12, 2) := by decide +kernel
theorem dX1_isSame_284 : decode cX1_isSame 284 = .ok (.aaload, 1) := by decide +kernel
theorem dX1_isSame_285 : decode cX1_isSame 285 = .ok (.iconst 1, 1) := by decide +kernel
theorem dX1_isSame_286 : decode cX1_isSame 286 = .ok (.iaload, 1) := by decide +kernel
theorem dX1_isSame_287 : decode cX1_isSame 287 = .ok (.iconst 1, 1) := by decide +kernel
theorem dX1_isSame_288 : decode cX1_isSame 288 = .ok (.iastore, 1) := by decide +kernel
theorem dX1_isSame_289 : decode cX1_isSame 289 = .ok (.iload 12, 2) := by decide +kernel
theorem dX1_isSame_291 : decode cX1_isSame 291 = .ok (.iload_n 3, 1) := by decide +kernel
theorem dX1_isSame_292 : decode cX1_isSame 292 = .ok (.iconst 1, 1) := by decide +kernel
theorem dX1_isSame_293 : decode cX1_isSame 293 = .ok (.isub, 1) := by decide +kernel
theorem dX1_isSame_294 : decode cX1_isSame 294 = .ok (.if_icmp .ne 6, 3) := by decide +kernel
theorem dX1_isSame_297 : decode cX1_isSame 297 = .ok (.goto 203, 3) := by decide +kernel
theorem dX1_isSame_300 : decode cX1_isSame 300 = .ok (.aload_n 2, 1) := by decide +kernel
theorem dX1_isSame_301 : decode cX1_isSame 301 = .ok (.iload 12, 2) := by decide +kernel
theorem dX1_isSame_303 : decode cX1_isSame 303 = .ok (.invokestatic 31, 3) := by decide +kernel
theorem dX1_isSame_306 : decode cX1_isSame 306 = .ok (.istore 13, 2) := by decide +kernel
theorem dX1_isSame_308 : decode cX1_isSame 308 = .ok (.aload_n 1, 1) := by decide +kernel
theorem dX1_isSame_309 : decode cX1_isSame 309 = .ok (.iload 12, 2) := by decide +kernel
theorem dX1_isSame_311 : decode cX1_isSame 311 = .ok (.invokevirtual 92, 3) := by decide +kernel
theorem dX1_isSame_314 : decode cX1_isSame 314 = .ok (.aload_n 2, 1) := by decide +kernel
theorem dX1_isSame_315 : decode cX1_isSame 315 = .ok (.iload 12, 2) := by decide +kernel
theorem dX1_isSame_317 : decode cX1_isSame 317 = .ok (.aaload, 1) := by decide +kernel
theorem dX1_isSame_318 : decode cX1_isSame 318 = .ok (.iconst 2, 1) := by decide +kernel
theorem dX1_isSame_319 : decode cX1_isSame 319 = .ok (.iaload, 1) := by decide +kernel
theorem dX1_isSame_320 : decode cX1_isSame 320 = .ok (.if_icmp .ne 117, 3) := by decide +kernel
theorem dX1_isSame_323 : decode cX1_isSame 323 = .ok (.aload_n 1, 1) := by decide +kernel
theorem dX1_isSame_324 : decode cX1_isSame 324 = .ok (.iload 12, 2) := by decide +kernel
theorem dX1_isSame_326 : decode cX1_isSame 326 = .ok (.invokevirtual 95, 3) := by decide +kernel
theorem dX1_isSame_329 : decode cX1_isSame 329 = .ok (.aload_n 2, 1) := by decide +kernel
theorem dX1_isSame_330 : decode cX1_isSame 330 = .ok (.iload 12, 2) := by decide +kernel
theorem dX1_isSame_332 : decode cX1_isSame 332 = .ok (.invokestatic 23, 3) := by decide +kernel
theorem dX1_isSame_335 : decode cX1_isSame 335 = .ok (.if_icmp .ne 102, 3) := by decide +kernel
theorem dX1_isSame_338 : decode cX1_isSame 338 = .ok (.aload_n 1, 1) := by decide +kernel
theorem dX1_isSame_339 : decode cX1_isSame 339 = .ok (.iload 12, 2) := by decide +kernel
theorem dX1_isSame_341 : decode cX1_isSame 341 = .ok (.invokevirtual 98, 3) := by decide +kernel
theorem dX1_isSame_344 : decode cX1_isSame 344 = .ok (.aload_n 2, 1) := by decide +kernel
theorem dX1_isSame_345 : decode cX1_isSame 345 = .ok (.iload 12, 2) := by decide +kernel
theorem dX1_isSame_347 : decode cX1_isSame 347 = .ok (.aaload, 1) := by decide +kernel
theorem dX1_isSame_348 : decode cX1_isSame 348 = .ok (.iconst 3, 1) := by decide +kernel
theorem dX1_isSame_349 : decode cX1_isSame 349 = .ok (.iaload, 1) := by decide +kernel
theorem dX1_isSame_350 : decode cX1_isSame 350 = .ok (.iconst 1, 1) := by decide +kernel
theorem dX1_isSame_351 : decode cX1_isSame 351 = .ok (.if_icmp .ne 7, 3) := by decide +kernel
theorem dX1_isSame_354 : decode cX1_isSame 354 = .ok (.iconst 1, 1) := by decide +kernel
theorem dX1_isSame_355 : decode cX1_isSame 355 = .ok (.goto 4, 3) := by decide +kernel
theorem dX1_isSame_358 : decode cX1_isSame 358 = .ok (.iconst 0, 1) := by decide +kernel
theorem dX1_isSame_359 : decode cX1_isSame 359 = .ok (.if_icmp .ne 78, 3) := by decide +kernel
theorem dX1_isSame_362 : decode cX1_isSame 362 = .ok (.aload_n 1, 1) := by decide +kernel
theorem dX1_isSame_363 : decode cX1_isSame 363 = .ok (.iload 12, 2) := by decide +kernel
theorem dX1_isSame_365 : decode cX1_isSame 365 = .ok (.invokevirtual 101, 3) := by decide +kernel
theorem dX1_isSame_368 : decode cX1_isSame 368 = .ok (.iload 13, 2) := by decide +kernel
theorem dX1_isSame_370 : decode cX1_isSame 370 = .ok (.ifCond .ne 7, 3) := by decide +kernel
theorem dX1_isSame_373 : decode cX1_isSame 373 = .ok (.iconst 1, 1) := by decide +kernel
theorem dX1_isSame_374 : decode cX1_isSame 374 = .ok (.goto 4, 3) := by decide +kernel
theorem dX1_isSame_377 : decode cX1_isSame 377 = .ok (.iconst 0, 1) := by decide +kernel
theorem dX1_isSame_378 : decode cX1_isSame 378 = .ok (.if_icmp .ne 59, 3) := by decide +kernel
theorem dX1_isSame_381 : decode cX1_isSame 381 = .ok (.aload_n 1, 1) := by decide +kernel
theorem dX1_isSame_382 : decode cX1_isSame 382 = .ok (.iload 12, 2) := by decide +kernel
theorem dX1_isSame_384 : decode cX1_isSame 384 = .ok (.invokevirtual 104, 3) := by decide +kernel
theorem dX1_isSame_387 : decode cX1_isSame 387 = .ok (.iload 13, 2) := by decide +kernel
theorem dX1_isSame_389 : decode cX1_isSame 389 = .ok (.iconst 1, 1) := by decide +kernel
theorem dX1_isSame_390 : decode cX1_isSame 390 = .ok (.if_icmp .ne 7, 3) := by decide +kernel
theorem dX1_isSame_393 : decode cX1_isSame 393 = .ok (.iconst 1, 1) := by decide +kernel
theorem dX1_isSame_394 : decode cX1_isSame 394 = .ok (.goto 4, 3) := by decide +kernel
theorem dX1_isSame_397 : decode cX1_isSame 397 = .ok (.iconst 0, 1) := by decide +kernel
theorem dX1_isSame_398 : decode cX1_isSame 398 = .ok (.if_icmp .ne 39, 3) := by decide +kernel
theorem dX1_isSame_401 : decode cX1_isSame 401 = .ok (.aload_n 1, 1) := by decide +kernel
theorem dX1_isSame_402 : decode cX1_isSame 402 = .ok (.iload 12, 2) := by decide +kernel
theorem dX1_isSame_404 : decode cX1_isSame 404 = .ok (.invokevirtual 107, 3) := by decide +kernel
theorem dX1_isSame_407 : decode cX1_isSame 407 = .ok (.iload 13, 2) := by decide +kernel
theorem dX1_isSame_409 : decode cX1_isSame 409 = .ok (.iconst 2, 1) := by decide +kernel
theorem dX1_isSame_410 : decode cX1_isSame 410 = .ok (.if_icmp .ne 7, 3) := by decide +kernel
theorem dX1_isSame_413 : decode cX1_isSame 413 = .ok (.iconst 1, 1) := by decide +kernel
theorem dX1_isSame_414 : decode cX1_isSame 414 = .ok (.goto 4, 3) := by decide +kernel
theorem dX1_isSame_417 : decode cX1_isSame 417 = .ok (.iconst 0, 1) := by decide +kernel
theorem dX1_isSame_418 : decode cX1_isSame 418 = .ok (.if_icmp .ne 19, 3) := by decide +kernel
theorem dX1_isSame_421 : decode cX1_isSame 421 = .ok (.aload_n 1, 1) := by decide +kernel
theorem dX1_isSame_422 : decode cX1_isSame 422 = .ok (.iload 12, 2) := by decide +kernel
theorem dX1_isSame_424 : decode cX1_isSame 424 = .ok (.invokevirtual 110, 3) := by decide +kernel
theorem dX1_isSame_427 : decode cX1_isSame 427 = .ok (.aload_n 0, 1) := by decide +kernel
theorem dX1_isSame_428 : decode cX1_isSame 428 = .ok (.aload_n 2, 1) := by decide +kernel
theorem dX1_isSame_429 : decode cX1_isSame 429 = .ok (.iload 12, 2) := by decide +kernel
theorem dX1_isSame_431 : decode cX1_isSame 431 = .ok (.invokevirtual 113, 3) := by decide +kernel
theorem dX1_isSame_434 : decode cX1_isSame 434 = .ok (.if_icmp .eq 5, 3) := by decide +kernel
theorem dX1_isSame_437 : decode cX1_isSame 437 = .ok (.iconst 0, 1) := by decide +kernel
theorem dX1_isSame_438 : decode cX1_isSame 438 = .ok (.ireturn, 1) := by decide +kernel
theorem dX1_isSame_439 : decode cX1_isSame 439 = .ok (.iload 5, 2) := by decide +kernel
theorem dX1_isSame_441 : decode cX1_isSame 441 = .ok (.iload 13, 2) := by decide +kernel
theorem dX1_isSame_443 : decode cX1_isSame 443 = .ok (.iconst 1, 1) := by decide +kernel
theorem dX1_isSame_444 : decode cX1_isSame 444 = .ok (.if_icmp .ne 7, 3) := by decide +kernel
theorem dX1_isSame_447 : decode cX1_isSame 447 = .ok (.iconst 1, 1) := by decide +kernel
theorem dX1_isSame_448 : decode cX1_isSame 448 = .ok (.goto 4, 3) := by decide +kernel
theorem dX1_isSame_451 : decode cX1_isSame 451 = .ok (.iconst 0, 1) := by decide +kernel
theorem dX1_isSame_452 : decode cX1_isSame 452 = .ok (.iadd, 1) := by decide +kernel
theorem dX1_isSame_453 : decode cX1_isSame 453 = .ok (.istore 5, 2) := by decide +kernel
theorem dX1_isSame_455 : decode cX1_isSame 455 = .ok (.iload 6, 2) := by decide +kernel
theorem dX1_isSame_457 : decode cX1_isSame 457 = .ok (.aload_n 0, 1) := by decide +kernel
theorem dX1_isSame_458 : decode cX1_isSame 458 = .ok (.aload_n 2, 1) := by decide +kernel
theorem dX1_isSame_459 : decode cX1_isSame 459 = .ok (.iload 12, 2) := by decide +kernel
theorem dX1_isSame_461 : decode cX1_isSame 461 = .ok (.invokevirtual 113, 3) := by decide +kernel
theorem dX1_isSame_464 : decode cX1_isSame 464 = .ok (.iadd, 1) := by decide +kernel
theorem dX1_isSame_465 : decode cX1_isSame 465 = .ok (.istore 6, 2) := by decide +kernel
theorem dX1_isSame_467 : decode cX1_isSame 467 = .ok (.iload 7, 2) := by decide +kernel
theorem dX1_isSame_469 : decode cX1_isSame 469 = .ok (.aload_n 2, 1) := by decide +kernel
theorem dX1_isSame_470 : decode cX1_isSame 470 = .ok (.iload 12, 2) := by decide +kernel
theorem dX1_isSame_472 : decode cX1_isSame 472 = .ok (.invokestatic 23, 3) := by decide +kernel
theorem dX1_isSame_475 : decode cX1_isSame 475 = .ok (.iadd, 1) := by decide +kernel
theorem dX1_isSame_476 : decode cX1_isSame 476 = .ok (.istore 7, 2) := by decide +kernel
theorem dX1_isSame_478 : decode cX1_isSame 478 = .ok (.iload 4, 2) := by decide +kernel
theorem dX1_isSame_480 : decode cX1_isSame 480 = .ok (.iload 13, 2) := by decide +kernel
theorem dX1_isSame_482 : decode cX1_isSame 482 = .ok (.iconst 2, 1) := by decide +kernel
theorem dX1_isSame_483 : decode cX1_isSame 483 = .ok (.if_icmp .ne 7, 3) := by decide +kernel
theorem dX1_isSame_486 : decode cX1_isSame 486 = .ok (.iconst 1, 1) := by decide +kernel
theorem dX1_isSame_487 : decode cX1_isSame 487 = .ok (.goto 4, 3) := by decide +kernel
theorem dX1_isSame_490 : decode cX1_isSame 490 = .ok (.iconst 0, 1) := by decide +kernel
theorem dX1_isSame_491 : decode cX1_isSame 491 = .ok (.iadd, 1) := by decide +kernel
theorem dX1_isSame_492 : decode cX1_isSame 492 = .ok (.istore 4, 2) := by decide +kernel
theorem dX1_isSame_494 : decode cX1_isSame 494 = .ok (.iinc 12 1, 3) := by decide +kernel
theorem dX1_isSame_497 : decode cX1_isSame 497 = .ok (.goto (-305), 3) := by decide +kernel
theorem dX1_isSame_500 : decode cX1_isSame 500 = .ok (.iload_n 3, 1) := by decide +kernel
theorem dX1_isSame_501 : decode cX1_isSame 501 = .ok (.ifCond .ne 7, 3) := by decide +kernel
theorem dX1_isSame_504 : decode cX1_isSame 504 = .ok (.iconst 0, 1) := by decide +kernel
theorem dX1_isSame_505 : decode cX1_isSame 505 = .ok (.goto 7, 3) := by decide +kernel
theorem dX1_isSame_508 : decode cX1_isSame 508 = .ok (.iload 4, 2) := by decide +kernel
theorem dX1_isSame_510 : decode cX1_isSame 510 = .ok (.iconst 1, 1) := by decide +kernel
theorem dX1_isSame_511 : decode cX1_isSame 511 = .ok (.iadd, 1) := by decide +kernel
theorem dX1_isSame_512 : decode cX1_isSame 512 = .ok (.istore 12, 2) := by decide +kernel
theorem dX1_isSame_514 : decode cX1_isSame 514 = .ok (.iconst (-1), 1) := by decide +kernel
theorem dX1_isSame_515 : decode cX1_isSame 515 = .ok (.istore 13, 2) := by decide +kernel
theorem dX1_isSame_517 : decode cX1_isSame 517 = .ok (.iconst 0, 1) := by decide +kernel
theorem dX1_isSame_518 : decode cX1_isSame 518 = .ok (.istore 14, 2) := by decide +kernel
theorem dX1_isSame_520 : decode cX1_isSame 520 = .ok (.iload 14, 2) := by decide +kernel
theorem dX1_isSame_522 : decode cX1_isSame 522 = .ok (.iload 12, 2) := by decide +kernel
theorem dX1_isSame_524 : decode cX1_isSame 524 = .ok (.if_icmp .ge 103, 3) := by decide +kernel
theorem dX1_isSame_527 : decode cX1_isSame 527 = .ok (.iconst 0, 1) := by decide +kernel
theorem dX1_isSame_528 : decode cX1_isSame 528 = .ok (.istore 15, 2) := by decide +kernel
theorem dX1_isSame_530 : decode cX1_isSame 530 = .ok (.aload 11, 2) := by decide +kernel
theorem dX1_isSame_532 : decode cX1_isSame 532 = .ok (.iload 14, 2) := by decide +kernel
theorem dX1_isSame_534 : decode cX1_isSame 534 = .ok (.aaload, 1) := by decide +kernel
theorem dX1_isSame_535 : decode cX1_isSame 535 = .ok (.astore 16, 2) := by decide +kernel
theorem dX1_isSame_537 : decode cX1_isSame 537 = .ok (.aload 16, 2) := by decide +kernel
theorem dX1_isSame_539 : decode cX1_isSame 539 = .ok (.arraylength, 1) := by decide +kernel
theorem dX1_isSame_540 : decode cX1_isSame 540 = .ok (.istore 17, 2) := by decide +kernel
theorem dX1_isSame_542 : decode cX1_isSame 542 = .ok (.iconst 0, 1) := by decide +kernel
theorem dX1_isSame_543 : decode cX1_isSame 543 = .ok (.istore 18, 2) := by decide +kernel
theorem dX1_isSame_545 : decode cX1_isSame 545 = .ok (.iload 18, 2) := by decide +kernel
theorem dX1_isSame_547 : decode cX1_isSame 547 = .ok (.iload 17, 2) := by decide +kernel
theorem dX1_isSame_549 : decode cX1_isSame 549 = .ok (.if_icmp .ge 23, 3) := by decide +kernel
theorem dX1_isSame_552 : decode cX1_isSame 552 = .ok (.aload 16, 2) := by decide +kernel
theorem dX1_isSame_554 : decode cX1_isSame 554 = .ok (.iload 18, 2) := by decide +kernel
theorem dX1_isSame_556 : decode cX1_isSame 556 = .ok (.iaload, 1) := by decide +kernel
theorem dX1_isSame_557 : decode cX1_isSame 557 = .ok (.istore 19, 2) := by decide +kernel
theorem dX1_isSame_559 : decode cX1_isSame 559 = .ok (.iload 15, 2) := by decide +kernel
theorem dX1_isSame_561 : decode cX1_isSame 561 = .ok (.iload 19, 2) := by decide +kernel
theorem dX1_isSame_563 : decode cX1_isSame 563 = .ok (.iadd, 1) := by decide +kernel
theorem dX1_isSame_564 : decode cX1_isSame 564 = .ok (.istore 15, 2) := by decide +kernel
theorem dX1_isSame_566 : decode cX1_isSame 566 = .ok (.iinc 18 1, 3) := by decide +kernel
theorem dX1_isSame_569 : decode cX1_isSame 569 = .ok (.goto (-24), 3) := by decide +kernel
theorem dX1_isSame_572 : decode cX1_isSame 572 = .ok (.aload_n 1, 1) := by decide +kernel
theorem dX1_isSame_573 : decode cX1_isSame 573 = .ok (.iload 14, 2) := by decide +kernel
theorem dX1_isSame_575 : decode cX1_isSame 575 = .ok (.invokevirtual 116, 3) := by decide +kernel
theorem dX1_isSame_578 : decode cX1_isSame 578 = .ok (.aload 8, 2) := by decide +kernel
theorem dX1_isSame_580 : decode cX1_isSame 580 = .ok (.iload 14, 2) := by decide +kernel
theorem dX1_isSame_582 : decode cX1_isSame 582 = .ok (.iaload, 1) := by decide +kernel
theorem dX1_isSame_583 : decode cX1_isSame 583 = .ok (.if_icmp .ne 14, 3) := by decide +kernel
theorem dX1_isSame_586 : decode cX1_isSame 586 = .ok (.aload_n 1, 1) := by decide +kernel
theorem dX1_isSame_587 : decode cX1_isSame 587 = .ok (.iload 14, 2) := by decide +kernel
theorem dX1_isSame_589 : decode cX1_isSame 589 = .ok (.invokevirtual 119, 3) := by decide +kernel
theorem dX1_isSame_592 : decode cX1_isSame 592 = .ok (.iload 15, 2) := by decide +kernel
theorem dX1_isSame_594 : decode cX1_isSame 594 = .ok (.if_icmp .eq 5, 3) := by decide +kernel
theorem dX1_isSame_597 : decode cX1_isSame 597 = .ok (.iconst 0, 1) := by decide +kernel
theorem dX1_isSame_598 : decode cX1_isSame 598 = .ok (.ireturn, 1) := by decide +kernel
theorem dX1_isSame_599 : decode cX1_isSame 599 = .ok (.iload 13, 2) := by decide +kernel
theorem dX1_isSame_601 : decode cX1_isSame 601 = .ok (.ifCond .lt 16, 3) := by decide +kernel
theorem dX1_isSame_604 : decode cX1_isSame 604 = .ok (.aload 8, 2) := by decide +kernel
theorem dX1_isSame_606 : decode cX1_isSame 606 = .ok (.iload 14, 2) := by decide +kernel
theorem dX1_isSame_608 : decode cX1_isSame 608 = .ok (.iaload, 1) := by decide +kernel
theorem dX1_isSame_609 : decode cX1_isSame 609 = .ok (.aload 8, 2) := by decide +kernel
theorem dX1_isSame_611 : decode cX1_isSame 611 = .ok (.iload 13, 2) := by decide +kernel
theorem dX1_isSame_613 : decode cX1_isSame 613 = .ok (.iaload, 1) := by decide +kernel
theorem dX1_isSame_614 : decode cX1_isSame 614 = .ok (.if_icmp .le 7, 3) := by decide +kernel
theorem dX1_isSame_617 : decode cX1_isSame 617 = .ok (.iload 14, 2) := by decide +kernel
theorem dX1_isSame_619 : decode cX1_isSame 619 = .ok (.istore 13, 2) := by decide +kernel
theorem dX1_isSame_621 : decode cX1_isSame 621 = .ok (.iinc 14 1, 3) := by decide +kernel
theorem dX1_isSame_624 : decode cX1_isSame 624 = .ok (.goto (-104), 3) := by decide +kernel
theorem dX1_isSame_627 : decode cX1_isSame 627 = .ok (.iconst 0, 1) := by decide +kernel
theorem dX1_isSame_628 : decode cX1_isSame 628 = .ok (.istore 14, 2) := by decide +kernel
theorem dX1_isSame_630 : decode cX1_isSame 630 = .ok (.iload 14, 2) := by decide +kernel
theorem dX1_isSame_632 : decode cX1_isSame 632 = .ok (.bipush 6, 2) := by decide +kernel
theorem dX1_isSame_634 : decode cX1_isSame 634 = .ok (.if_icmp .ge 81, 3) := by decide +kernel
theorem dX1_isSame_637 : decode cX1_isSame 637 = .ok (.iconst 0, 1) := by decide +kernel
theorem dX1_isSame_638 : decode cX1_isSame 638 = .ok (.istore 15, 2) := by decide +kernel
theorem dX1_isSame_640 : decode cX1_isSame 640 = .ok (.aload 10, 2) := by decide +kernel
theorem dX1_isSame_642 : decode cX1_isSame 642 = .ok (.iload 14, 2) := by decide +kernel
theorem dX1_isSame_644 : decode cX1_isSame 644 = .ok (.aaload, 1) := by decide +kernel
theorem dX1_isSame_645 : decode cX1_isSame 645 = .ok (.astore 16, 2) := by decide +kernel
theorem dX1_isSame_647 : decode cX1_isSame 647 = .ok (.aload 16, 2) := by decide +kernel
theorem dX1_isSame_649 : decode cX1_isSame 649 = .ok (.arraylength, 1) := by decide +kernel
theorem dX1_isSame_650 : decode cX1_isSame 650 = .ok (.istore 17, 2) := by decide +kernel
theorem dX1_isSame_652 : decode cX1_isSame 652 = .ok (.iconst 0, 1) := by decide +kernel
theorem dX1_isSame_653 : decode cX1_isSame 653 = .ok (.istore 18, 2) := by decide +kernel
theorem dX1_isSame_655 : decode cX1_isSame 655 = .ok (.iload 18, 2) := by decide +kernel
theorem dX1_isSame_657 : decode cX1_isSame 657 = .ok (.iload 17, 2) := by decide +kernel
theorem dX1_isSame_659 : decode cX1_isSame 659 = .ok (.if_icmp .ge 23, 3) := by decide +kernel
theorem dX1_isSame_662 : decode cX1_isSame 662 = .ok (.aload 16, 2) := by decide +kernel
theorem dX1_isSame_664 : decode cX1_isSame 664 = .ok (.iload 18, 2) := by decide +kernel
theorem dX1_isSame_666 : decode cX1_isSame 666 = .ok (.iaload, 1) := by decide +kernel
theorem dX1_isSame_667 : decode cX1_isSame 667 = .ok (.istore 19, 2) := by decide +kernel
theorem dX1_isSame_669 : decode cX1_isSame 669 = .ok (.iload 15, 2) := by decide +kernel
theorem dX1_isSame_671 : decode cX1_isSame 671 = .ok (.iload 19, 2) := by decide +kernel
theorem dX1_isSame_673 : decode cX1_isSame 673 = .ok (.iadd, 1) := by decide +kernel
theorem dX1_isSame_674 : decode cX1_isSame 674 = .ok (.istore 15, 2) := by decide +kernel
theorem dX1_isSame_676 : decode cX1_isSame 676 = .ok (.iinc 18 1, 3) := by decide +kernel
theorem dX1_isSame_679 : decode cX1_isSame 679 = .ok (.goto (-24), 3) := by decide +kernel
theorem dX1_isSame_682 : decode cX1_isSame 682 = .ok (.aload_n 1, 1) := by decide +kernel
theorem dX1_isSame_683 : decode cX1_isSame 683 = .ok (.iload 14, 2) := by decide +kernel
theorem dX1_isSame_685 : decode cX1_isSame 685 = .ok (.invokevirtual 122, 3) := by decide +kernel
theorem dX1_isSame_688 : decode cX1_isSame 688 = .ok (.aload 9, 2) := by decide +kernel
theorem dX1_isSame_690 : decode cX1_isSame 690 = .ok (.iload 14, 2) := by decide +kernel
theorem dX1_isSame_692 : decode cX1_isSame 692 = .ok (.iaload, 1) := by decide +kernel
theorem dX1_isSame_693 : decode cX1_isSame 693 = .ok (.if_icmp .ne 14, 3) := by decide +kernel
theorem dX1_isSame_696 : decode cX1_isSame 696 = .ok (.aload_n 1, 1) := by decide +kernel
theorem dX1_isSame_697 : decode cX1_isSame 697 = .ok (.iload 14, 2) := by decide +kernel
theorem dX1_isSame_699 : decode cX1_isSame 699 = .ok (.invokevirtual 125, 3) := by decide +kernel
theorem dX1_isSame_702 : decode cX1_isSame 702 = .ok (.iload 15, 2) := by decide +kernel
theorem dX1_isSame_704 : decode cX1_isSame 704 = .ok (.if_icmp .eq 5, 3) := by decide +kernel
theorem dX1_isSame_707 : decode cX1_isSame 707 = .ok (.iconst 0, 1) := by decide +kernel
theorem dX1_isSame_708 : decode cX1_isSame 708 = .ok (.ireturn, 1) := by decide +kernel
theorem dX1_isSame_709 : decode cX1_isSame 709 = .ok (.iinc 14 1, 3) := by decide +kernel
theorem dX1_isSame_712 : decode cX1_isSame 712 = .ok (.goto (-82), 3) := by decide +kernel
theorem dX1_isSame_715 : decode cX1_isSame 715 = .ok (.aload_n 1, 1) := by decide +kernel
theorem dX1_isSame_716 : decode cX1_isSame 716 = .ok (.invokevirtual 128, 3) := by decide +kernel
theorem dX1_isSame_719 : decode cX1_isSame 719 = .ok (.iload 5, 2) := by decide +kernel
theorem dX1_isSame_721 : decode cX1_isSame 721 = .ok (.if_icmp .ne 59, 3) := by decide +kernel
theorem dX1_isSame_724 : decode cX1_isSame 724 = .ok (.aload_n 1, 1) := by decide +kernel
theorem dX1_isSame_725 : decode cX1_isSame 725 = .ok (.invokevirtual 131, 3) := by decide +kernel
theorem dX1_isSame_728 : decode cX1_isSame 728 = .ok (.iload 12, 2) := by decide +kernel
theorem dX1_isSame_730 : decode cX1_isSame 730 = .ok (.if_icmp .ne 50, 3) := by decide +kernel
theorem dX1_isSame_733 : decode cX1_isSame 733 = .ok (.aload_n 1, 1) := by decide +kernel
theorem dX1_isSame_734 : decode cX1_isSame 734 = .ok (.invokevirtual 134, 3) := by decide +kernel
theorem dX1_isSame_737 : decode cX1_isSame 737 = .ok (.iload 13, 2) := by decide +kernel
theorem dX1_isSame_739 : decode cX1_isSame 739 = .ok (.if_icmp .ne 41, 3) := by decide +kernel
theorem dX1_isSame_742 : decode cX1_isSame 742 = .ok (.aload_n 1, 1) := by decide +kernel
theorem dX1_isSame_743 : decode cX1_isSame 743 = .ok (.invokevirtual 137, 3) := by decide +kernel
theorem dX1_isSame_746 : decode cX1_isSame 746 = .ok (.iload 6, 2) := by decide +kernel
theorem dX1_isSame_748 : decode cX1_isSame 748 = .ok (.if_icmp .ne 32, 3) := by decide +kernel
theorem dX1_isSame_751 : decode cX1_isSame 751 = .ok (.aload_n 1, 1) := by decide +kernel
theorem dX1_isSame_752 : decode cX1_isSame 752 = .ok (.invokevirtual 140, 3) := by decide +kernel
theorem dX1_isSame_755 : decode cX1_isSame 755 = .ok (.iload_n 3, 1) := by decide +kernel
theorem dX1_isSame_756 : decode cX1_isSame 756 = .ok (.iconst 2, 1) := by decide +kernel
theorem dX1_isSame_757 : decode cX1_isSame 757 = .ok (.if_icmp .ge 7, 3) := by decide +kernel
theorem dX1_isSame_760 : decode cX1_isSame 760 = .ok (.dconst 0, 1) := by decide +kernel
theorem dX1_isSame_761 : decode cX1_isSame 761 = .ok (.goto 11, 3) := by decide +kernel
theorem dX1_isSame_764 : decode cX1_isSame 764 = .ok (.iload 7, 2) := by decide +kernel
theorem dX1_isSame_766 : decode cX1_isSame 766 = .ok (.i2d, 1) := by decide +kernel
theorem dX1_isSame_767 : decode cX1_isSame 767 = .ok (.iload_n 3, 1) := by decide +kernel
theorem dX1_isSame_768 : decode cX1_isSame 768 = .ok (.iconst 1, 1) := by decide +kernel
theorem dX1_isSame_769 : decode cX1_isSame 769 = .ok (.isub, 1) := by decide +kernel
theorem dX1_isSame_770 : decode cX1_isSame 770 = .ok (.i2d, 1) := by decide +kernel
theorem dX1_isSame_771 : decode cX1_isSame 771 = .ok (.ddiv, 1) := by decide +kernel
theorem dX1_isSame_772 : decode cX1_isSame 772 = .ok (.dcmp .l, 1) := by decide +kernel
theorem dX1_isSame_773 : decode cX1_isSame 773 = .ok (.ifCond .ne 7, 3) := by decide +kernel
theorem dX1_isSame_776 : decode cX1_isSame 776 = .ok (.iconst 1, 1) := by decide +kernel
theorem dX1_isSame_777 : decode cX1_isSame 777 = .ok (.goto 4, 3) := by decide +kernel
theorem dX1_isSame_780 : decode cX1_isSame 780 = .ok (.iconst 0, 1) := by decide +kernel
theorem dX1_isSame_781 : decode cX1_isSame 781 = .ok (.ireturn, 1) := by decide +kernel
theorem dJ6_bitCount_0f7a4_0 : decode cJ6_bitCount_0f7a4 0 = .ok (.iload_n 0, 1) := by decide +kernel
theorem dJ6_bitCount_0f7a4_1 : decode cJ6_bitCount_0f7a4 1 = .ok (.iload_n 0, 1) := by decide +kernel
theorem dJ6_bitCount_0f7a4_2 : decode cJ6_bitCount_0f7a4 2 = .ok (.iconst 1, 1) := by decide +kernel
theorem dJ6_bitCount_0f7a4_3 : decode cJ6_bitCount_0f7a4 3 = .ok (.iushr, 1) := by decide +kernel
theorem dJ6_bitCount_0f7a4_4 : decode cJ6_bitCount_0f7a4 4 = .ok (.ldc_w 265, 3) := by decide +kernel
theorem dJ6_bitCount_0f7a4_7 : decode cJ6_bitCount_0f7a4 7 = .ok (.iand, 1) := by decide +kernel
theorem dJ6_bitCount_0f7a4_8 : decode cJ6_bitCount_0f7a4 8 = .ok (.isub, 1) := by decide +kernel
theorem dJ6_bitCount_0f7a4_9 : decode cJ6_bitCount_0f7a4 9 = .ok (.istore_n 0, 1) := by decide +kernel
theorem dJ6_bitCount_0f7a4_10 : decode cJ6_bitCount_0f7a4 10 = .ok (.iload_n 0, 1) := by decide +kernel
theorem dJ6_bitCount_0f7a4_11 : decode cJ6_bitCount_0f7a4 11 = .ok (.ldc_w 266, 3) := by decide +kernel
theorem dJ6_bitCount_0f7a4_14 : decode cJ6_bitCount_0f7a4 14 = .ok (.iand, 1) := by decide +kernel
theorem dJ6_bitCount_0f7a4_15 : decode cJ6_bitCount_0f7a4 15 = .ok (.iload_n 0, 1) := by decide +kernel
theorem dJ6_bitCount_0f7a4_16 : decode cJ6_bitCount_0f7a4 16 = .ok (.iconst 2, 1) := by decide +kernel
theorem dJ6_bitCount_0f7a4_17 : decode cJ6_bitCount_0f7a4 17 = .ok (.iushr, 1) := by decide +kernel
theorem dJ6_bitCount_0f7a4_18 : decode cJ6_bitCount_0f7a4 18 = .ok (.ldc_w 266, 3) := by decide +kernel
theorem dJ6_bitCount_0f7a4_21 : decode cJ6_bitCount_0f7a4 21 = .ok (.iand, 1) := by decide +kernel
theorem dJ6_bitCount_0f7a4_22 : decode cJ6_bitCount_0f7a4 22 = .ok (.iadd, 1) := by decide +kernel
theorem dJ6_bitCount_0f7a4_23 : decode cJ6_bitCount_0f7a4 23 = .ok (.istore_n 0, 1) := by decide +kernel
theorem dJ6_bitCount_0f7a4_24 : decode cJ6_bitCount_0f7a4 24 = .ok (.iload_n 0, 1) := by decide +kernel
theorem dJ6_bitCount_0f7a4_25 : decode cJ6_bitCount_0f7a4 25 = .ok (.iload_n 0, 1) := by decide +kernel
theorem dJ6_bitCount_0f7a4_26 : decode cJ6_bitCount_0f7a4 26 = .ok (.iconst 4, 1) := by decide +kernel
theorem dJ6_bitCount_0f7a4_27 : decode cJ6_bitCount_0f7a4 27 = .ok (.iushr, 1) := by decide +kernel
theorem dJ6_bitCount_0f7a4_28 : decode cJ6_bitCount_0f7a4 28 = .ok (.iadd, 1) := by decide +kernel
theorem dJ6_bitCount_0f7a4_29 : decode cJ6_bitCount_0f7a4 29 = .ok (.ldc_w 267, 3) := by decide +kernel
theorem dJ6_bitCount_0f7a4_32 : decode cJ6_bitCount_0f7a4 32 = .ok (.iand, 1) := by decide +kernel
theorem dJ6_bitCount_0f7a4_33 : decode cJ6_bitCount_0f7a4 33 = .ok (.istore_n 0, 1) := by decide +kernel
theorem dJ6_bitCount_0f7a4_34 : decode cJ6_bitCount_0f7a4 34 = .ok (.iload_n 0, 1) := by decide +kernel
theorem dJ6_bitCount_0f7a4_35 : decode cJ6_bitCount_0f7a4 35 = .ok (.iload_n 0, 1) := by decide +kernel
theorem dJ6_bitCount_0f7a4_36 : decode cJ6_bitCount_0f7a4 36 = .ok (.bipush 8, 2) := by decide +kernel
theorem dJ6_bitCount_0f7a4_38 : decode cJ6_bitCount_0f7a4 38 = .ok (.iushr, 1) := by decide +kernel
theorem dJ6_bitCount_0f7a4_39 : decode cJ6_bitCount_0f7a4 39 = .ok (.iadd, 1) := by decide +kernel
theorem dJ6_bitCount_0f7a4_40 : decode cJ6_bitCount_0f7a4 40 = .ok (.istore_n 0, 1) := by decide +kernel
theorem dJ6_bitCount_0f7a4_41 : decode cJ6_bitCount_0f7a4 41 = .ok (.iload_n 0, 1) := by decide +kernel
theorem dJ6_bitCount_0f7a4_42 : decode cJ6_bitCount_0f7a4 42 = .ok (.iload_n 0, 1) := by decide +kernel
theorem dJ6_bitCount_0f7a4_43 : decode cJ6_bitCount_0f7a4 43 = .ok (.bipush 16, 2) := by decide +kernel
theorem dJ6_bitCount_0f7a4_45 : decode cJ6_bitCount_0f7a4 45 = .ok (.iushr, 1) := by decide +kernel
theorem dJ6_bitCount_0f7a4_46 : decode cJ6_bitCount_0f7a4 46 = .ok (.iadd, 1) := by decide +kernel
theorem dJ6_bitCount_0f7a4_47 : decode cJ6_bitCount_0f7a4 47 = .ok (.istore_n 0, 1) := by decide +kernel
theorem dJ6_bitCount_0f7a4_48 : decode cJ6_bitCount_0f7a4 48 = .ok (.iload_n 0, 1) := by decide +kernel
theorem dJ6_bitCount_0f7a4_49 : decode cJ6_bitCount_0f7a4 49 = .ok (.bipush 63, 2) := by decide +kernel
theorem dJ6_bitCount_0f7a4_51 : decode cJ6_bitCount_0f7a4 51 = .ok (.iand, 1) := by decide +kernel
theorem dJ6_bitCount_0f7a4_52 : decode cJ6_bitCount_0f7a4 52 = .ok (.ireturn, 1) := by decide +kernel
theorem dJ9_floorMod_7cf53_0 : decode cJ9_floorMod_7cf53 0 = .ok (.iload_n 0, 1) := by decide +kernel
theorem dJ9_floorMod_7cf53_1 : decode cJ9_floorMod_7cf53 1 = .ok (.iload_n 1, 1) := by decide +kernel
theorem dJ9_floorMod_7cf53_2 : decode cJ9_floorMod_7cf53 2 = .ok (.irem, 1) := by decide +kernel
theorem dJ9_floorMod_7cf53_3 : decode cJ9_floorMod_7cf53 3 = .ok (.istore_n 2, 1) := by decide +kernel
theorem dJ9_floorMod_7cf53_4 : decode cJ9_floorMod_7cf53 4 = .ok (.iload_n 0, 1) := by decide +kernel
theorem dJ9_floorMod_7cf53_5 : decode cJ9_floorMod_7cf53 5 = .ok (.iload_n 1, 1) := by decide +kernel
theorem dJ9_floorMod_7cf53_6 : decode cJ9_floorMod_7cf53 6 = .ok (.ixor, 1) := by decide +kernel
theorem dJ9_floorMod_7cf53_7 : decode cJ9_floorMod_7cf53 7 = .ok (.ifCond .ge 11, 3) := by decide +kernel
theorem dJ9_floorMod_7cf53_10 : decode cJ9_floorMod_7cf53 10 = .ok (.iload_n 2, 1) := by decide +kernel
theorem dJ9_floorMod_7cf53_11 : decode cJ9_floorMod_7cf53 11 = .ok (.ifCond .eq 7, 3) := by decide +kernel
theorem dJ9_floorMod_7cf53_14 : decode cJ9_floorMod_7cf53 14 = .ok (.iload_n 2, 1) := by decide +kernel
theorem dJ9_floorMod_7cf53_15 : decode cJ9_floorMod_7cf53 15 = .ok (.iload_n 1, 1) := by decide +kernel
theorem dJ9_floorMod_7cf53_16 : decode cJ9_floorMod_7cf53 16 = .ok (.iadd, 1) := by decide +kernel
theorem dJ9_floorMod_7cf53_17 : decode cJ9_floorMod_7cf53 17 = .ok (.ireturn, 1) := by decide +kernel
theorem dJ9_floorMod_7cf53_18 : decode cJ9_floorMod_7cf53 18 = .ok (.iload_n 2, 1) := by decide +kernel
theorem dJ9_floorMod_7cf53_19 : decode cJ9_floorMod_7cf53 19 = .ok (.ireturn, 1) := by decide +kernel
theorem dJ9_abs_0f7a4_0 : decode cJ9_abs_0f7a4 0 = .ok (.iload_n 0, 1) := by decide +kernel
theorem dJ9_abs_0f7a4_1 : decode cJ9_abs_0f7a4 1 = .ok (.ifCond .ge 8, 3) := by decide +kernel
theorem dJ9_abs_0f7a4_4 : decode cJ9_abs_0f7a4 4 = .ok (.iload_n 0, 1) := by decide +kernel
theorem dJ9_abs_0f7a4_5 : decode cJ9_abs_0f7a4 5 = .ok (.ineg, 1) := by decide +kernel
theorem dJ9_abs_0f7a4_6 : decode cJ9_abs_0f7a4 6 = .ok (.goto 4, 3) := by decide +kernel
theorem dJ9_abs_0f7a4_9 : decode cJ9_abs_0f7a4 9 = .ok (.iload_n 0, 1) := by decide +kernel
theorem dJ9_abs_0f7a4_10 : decode cJ9_abs_0f7a4 10 = .ok (.ireturn, 1) := by decide +kernel
theorem dJ9_max_7cf53_0 : decode cJ9_max_7cf53 0 = .ok (.iload_n 0, 1) := by decide +kernel
theorem dJ9_max_7cf53_1 : decode cJ9_max_7cf53 1 = .ok (.iload_n 1, 1) := by decide +kernel
theorem dJ9_max_7cf53_2 : decode cJ9_max_7cf53 2 = .ok (.if_icmp .lt 7, 3) := by decide +kernel
theorem dJ9_max_7cf53_5 : decode cJ9_max_7cf53 5 = .ok (.iload_n 0, 1) := by decide +kernel
theorem dJ9_max_7cf53_6 : decode cJ9_max_7cf53 6 = .ok (.goto 4, 3) := by decide +kernel
theorem dJ9_max_7cf53_9 : decode cJ9_max_7cf53 9 = .ok (.iload_n 1, 1) := by decide +kernel
theorem dJ9_max_7cf53_10 : decode cJ9_max_7cf53 10 = .ok (.ireturn, 1) := by decide +kernel
theorem dJ9_min_7cf53_0 : decode cJ9_min_7cf53 0 = .ok (.iload_n 0, 1) := by decide +kernel
theorem dJ9_min_7cf53_1 : decode cJ9_min_7cf53 1 = .ok (.iload_n 1, 1) := by decide +kernel
theorem dJ9_min_7cf53_2 : decode cJ9_min_7cf53 2 = .ok (.if_icmp .gt 7, 3) := by decide +kernel
theorem dJ9_min_7cf53_5 : decode cJ9_min_7cf53 5 = .ok (.iload_n 0, 1) := by decide +kernel
theorem dJ9_min_7cf53_6 : decode cJ9_min_7cf53 6 = .ok (.goto 4, 3) := by decide +kernel
theorem dJ9_min_7cf53_9 : decode cJ9_min_7cf53 9 = .ok (.iload_n 1, 1) := by decide +kernel
theorem dJ9_min_7cf53_10 : decode cJ9_min_7cf53 10 = .ok (.ireturn, 1) := by decide +kernel
theorem dL_below_0 : decode cL_below 0 = .ok (.iload_n 0, 1) := by decide +kernel
theorem dL_below_1 : decode cL_below 1 = .ok (.ldc 7, 2) := by decide +kernel
theorem dL_below_3 : decode cL_below 3 = .ok (.iand, 1) := by decide +kernel
theorem dL_below_4 : decode cL_below 4 = .ok (.iload_n 1, 1) := by decide +kernel
theorem dL_below_5 : decode cL_below 5 = .ok (.irem, 1) := by decide +kernel
theorem dL_below_6 : decode cL_below 6 = .ok (.ireturn, 1) := by decide +kernel
theorem dL_cell_0 : decode cL_cell 0 = .ok (.iload_n 1, 1) := by decide +kernel
theorem dL_cell_1 : decode cL_cell 1 = .ok (.aload_n 0, 1) := by decide +kernel
theorem dL_cell_2 : decode cL_cell 2 = .ok (.arraylength, 1) := by decide +kernel
theorem dL_cell_3 : decode cL_cell 3 = .ok (.if_icmp .ge 9, 3) := by decide +kernel
theorem dL_cell_6 : decode cL_cell 6 = .ok (.aload_n 0, 1) := by decide +kernel
theorem dL_cell_7 : decode cL_cell 7 = .ok (.iload_n 1, 1) := by decide +kernel
theorem dL_cell_8 : decode cL_cell 8 = .ok (.iaload, 1) := by decide +kernel
theorem dL_cell_9 : decode cL_cell 9 = .ok (.goto 9, 3) := by decide +kernel
theorem dL_cell_12 : decode cL_cell 12 = .ok (.ldc 8, 2) := by decide +kernel
theorem dL_cell_14 : decode cL_cell 14 = .ok (.iload_n 1, 1) := by decide +kernel
theorem dL_cell_15 : decode cL_cell 15 = .ok (.iconst 3, 1) := by decide +kernel
theorem dL_cell_16 : decode cL_cell 16 = .ok (.iadd, 1) := by decide +kernel
theorem dL_cell_17 : decode cL_cell 17 = .ok (.imul, 1) := by decide +kernel
theorem dL_cell_18 : decode cL_cell 18 = .ok (.ireturn, 1) := by decide +kernel
set_option maxRecDepth 20000 in
theorem ggL_act_X1_words : GoodIn wsL_act wsX1_words := goodIn_r _ [13, 14, 15, 2, 210, 211, 212] (by decide +kernel) (by decide +kernel)
set_option maxRecDepth 20000 in
theorem gL_act_X1_words : GoodIn wsL_act (wsV RL 15 RX1 yX1_words wsX1_words) := goodIn_app (goodIn_of _ (by decide +kernel)) ggL_act_X1_words
set_option maxRecDepth 20000 in
theorem ggL_act_L_below : GoodIn wsL_act wsL_below := goodIn_r _ [19, 20] (by decide +kernel) (by decide +kernel)
set_option maxRecDepth 20000 in
theorem gL_act_L_below : GoodIn wsL_act (va_wsS RL 19 yL_below wsL_below) := goodIn_app (goodIn_of _ (by decide +kernel)) ggL_act_L_below
set_option maxRecDepth 20000 in
theorem ggL_act_X1_insert : GoodIn wsL_act wsX1_insert := goodIn_r _ [24, 14, 15, 210, 211, 212] (by decide +kernel) (by decide +kernel)
set_option maxRecDepth 20000 in
theorem gL_act_X1_insert : GoodIn wsL_act (wsV RL 25 RX1 yX1_insert wsX1_insert) := goodIn_app (goodIn_of _ (by decide +kernel)) ggL_act_X1_insert
set_option maxRecDepth 20000 in
theorem ggL_act_X0_cough : GoodIn wsL_act wsX0_cough := goodIn_ca (goodIn_ca (goodIn_r _ [29, 30, 31, 28, 32, 33, 34, 35, 36, 37, 38, 39, 40, 41, 42, 43, 44, 45, 46, 47, 48, 49, 50, 51, 52, 53, 54, 55, 56, 57, 58, 59, 60, 61, 62, 63, 64, 65, 66, 67, 68, 69, 70, 71, 72, 73, 74, 75, 76, 77, 78, 79, 80, 81, 82, 83, 84, 85, 86, 87, 88, 89, 90, 91, 6, 92, 93, 5, 7, 94, 95, 96, 97, 98, 99, 100, 101, 102, 103, 104, 105, 106, 107, 108, 109, 110, 111, 213, 214, 215, 216, 217, 218, 219, 220, 221, 222] (by decide +kernel) (by decide +kernel)) (goodIn_sub (fun _ h => List.mem_cons_of_mem _ (List.mem_append_left _ (List.mem_append_left _ (List.mem_append_right _ h)))) (by decide +kernel))) (goodIn_sub (fun _ h => List.mem_cons_of_mem _ (List.mem_append_left _ (List.mem_append_right _ h))) (by decide +kernel))
set_option maxRecDepth 20000 in
theorem gL_act_X0_cough : GoodIn wsL_act (wsV RL 29 RX0 yX0_cough wsX0_cough) := goodIn_app (goodIn_of _ (by decide +kernel)) ggL_act_X0_cough
set_option maxRecDepth 20000 in
theorem ggL_act_X0_rest : GoodIn wsL_act wsX0_rest := goodIn_ca (goodIn_r _ [115, 116, 117, 118, 93, 5, 6, 7, 213, 214, 215, 216, 217, 218, 219, 220, 221, 222] (by decide +kernel) (by decide +kernel)) (goodIn_sub (fun _ h => List.mem_cons_of_mem _ (List.mem_append_right _ h)) (by decide +kernel))
set_option maxRecDepth 20000 in
theorem gL_act_X0_rest : GoodIn wsL_act (wsV RL 44 RX0 yX0_rest wsX0_rest) := goodIn_app (goodIn_of _ (by decide +kernel)) ggL_act_X0_rest
set_option maxRecDepth 20000 in
theorem ggL_act_X1_remove : GoodIn wsL_act wsX1_remove := goodIn_r _ [122, 14, 15, 210, 211, 212] (by decide +kernel) (by decide +kernel)
set_option maxRecDepth 20000 in
theorem gL_act_X1_remove : GoodIn wsL_act (wsV RL 47 RX1 yX1_remove wsX1_remove) := goodIn_app (goodIn_of _ (by decide +kernel)) ggL_act_X1_remove
set_option maxRecDepth 20000 in
theorem ggL_act_X0_removeCough : GoodIn wsL_act wsX0_removeCough := goodIn_ca (goodIn_ca (goodIn_r _ [126, 39, 40, 41, 127, 128, 129, 28, 130, 33, 34, 64, 65, 66, 67, 51, 68, 69, 70, 131, 132, 133, 134, 118, 135, 136, 137, 138, 139, 140, 141, 142, 143, 144, 145, 146, 147, 50, 52, 53, 54, 55, 56, 57, 58, 59, 60, 61, 62, 63, 71, 72, 73, 74, 75, 76, 77, 78, 79, 80, 81, 82, 83, 84, 85, 86, 87, 88, 89, 90, 91, 6, 92, 93, 5, 7, 94, 95, 96, 97, 98, 99, 100, 101, 102, 103, 104, 105, 106, 107, 108, 109, 110, 111, 213, 214, 215, 216, 217, 218, 219, 220, 221, 222] (by decide +kernel) (by decide +kernel)) (goodIn_sub (fun _ h => List.mem_cons_of_mem _ (List.mem_append_left _ (List.mem_append_right _ h))) (by decide +kernel))) (goodIn_sub (fun _ h => List.mem_cons_of_mem _ (List.mem_append_left _ (List.mem_append_left _ (List.mem_append_right _ h)))) (by decide +kernel))
set_option maxRecDepth 20000 in
theorem gL_act_X0_removeCough : GoodIn wsL_act (wsV RL 54 RX0 yX0_removeCough wsX0_removeCough) := goodIn_app (goodIn_of _ (by decide +kernel)) ggL_act_X0_removeCough
set_option maxRecDepth 20000 in
theorem ggL_act_X0_tie : GoodIn wsL_act wsX0_tie := goodIn_ca (goodIn_ca (goodIn_r _ [151, 52, 61, 62, 152, 153, 154, 28, 155, 33, 34, 156, 157, 158, 159, 60, 160, 161, 162, 163, 39, 40, 75, 76, 77, 78, 68, 69, 70, 131, 132, 133, 134, 118, 135, 136, 137, 138, 139, 53, 54, 55, 56, 57, 58, 59, 41, 63, 64, 65, 66, 67, 51, 71, 72, 73, 74, 79, 80, 81, 82, 83, 84, 85, 86, 87, 88, 89, 90, 91, 6, 92, 93, 5, 7, 94, 95, 96, 97, 98, 99, 100, 101, 102, 103, 104, 105, 50, 106, 107, 108, 109, 110, 111, 213, 214, 215, 216, 217, 218, 219, 220, 221, 222] (by decide +kernel) (by decide +kernel)) (goodIn_sub (fun _ h => List.mem_cons_of_mem _ (List.mem_append_left _ (List.mem_append_left _ (List.mem_append_right _ h)))) (by decide +kernel))) (goodIn_sub (fun _ h => List.mem_cons_of_mem _ (List.mem_append_left _ (List.mem_append_right _ h))) (by decide +kernel))
set_option maxRecDepth 20000 in
theorem gL_act_X0_tie : GoodIn wsL_act (wsV RL 57 RX0 yX0_tie wsX0_tie) := goodIn_app (goodIn_of _ (by decide +kernel)) ggL_act_X0_tie
set_option maxRecDepth 20000 in
theorem ggL_act_X1_broken : GoodIn wsL_act wsX1_broken := goodIn_r _ [166, 167, 168, 12, 169, 170, 171, 172, 173, 174, 175, 176, 177, 178] (by decide +kernel) (by decide +kernel)
set_option maxRecDepth 20000 in
theorem gL_act_X1_broken : GoodIn wsL_act (va_wsS RL 60 yX1_broken wsX1_broken) := goodIn_app (goodIn_of _ (by decide +kernel)) ggL_act_X1_broken
set_option maxRecDepth 20000 in
theorem ggL_act_X0_splice : GoodIn wsL_act wsX0_splice := goodIn_ca (goodIn_ca (goodIn_r _ [182, 61, 152, 153, 154, 28, 155, 33, 34, 156, 157, 158, 159, 60, 160, 161, 162, 163, 39, 40, 75, 76, 77, 78, 52, 68, 69, 70, 35, 36, 37, 38, 41, 131, 132, 133, 134, 118, 135, 136, 137, 138, 139, 102, 103, 104, 105, 50, 83, 84, 85, 86, 51, 183, 184, 185, 87, 88, 89, 90, 91, 6, 92, 93, 5, 7, 186, 187, 188, 189, 190, 191, 192, 193, 144, 145, 146, 147, 53, 54, 55, 46, 47, 48, 49, 56, 57, 58, 59, 62, 63, 64, 65, 66, 67, 71, 72, 73, 74, 79, 80, 81, 82, 94, 95, 96, 97, 98, 99, 100, 101, 106, 107, 108, 109, 110, 111, 213, 214, 215, 216, 217, 218, 219, 220, 221, 222] (by decide +kernel) (by decide +kernel)) (goodIn_sub (fun _ h => List.mem_cons_of_mem _ (List.mem_append_left _ (List.mem_append_left _ (List.mem_append_right _ h)))) (by decide +kernel))) (goodIn_sub (fun _ h => List.mem_cons_of_mem _ (List.mem_append_left _ (List.mem_append_right _ h))) (by decide +kernel))
set_option maxRecDepth 20000 in
theorem gL_act_X0_splice : GoodIn wsL_act (wsV RL 64 RX0 yX0_splice wsX0_splice) := goodIn_app (goodIn_of _ (by decide +kernel)) ggL_act_X0_splice
set_option maxRecDepth 20000 in
theorem ggL_act_X1_splice : GoodIn wsL_act wsX1_splice := goodIn_r _ [197, 2, 198, 10, 11, 12, 13, 14, 15, 199, 200, 201, 173, 174, 175, 202, 22, 23, 24, 210, 211, 212] (by decide +kernel) (by decide +kernel)
set_option maxRecDepth 20000 in
theorem gL_act_X1_splice : GoodIn wsL_act (wsV RL 67 RX1 yX1_splice wsX1_splice) := goodIn_app (goodIn_of _ (by decide +kernel)) ggL_act_X1_splice
set_option maxRecDepth 20000 in
theorem ggL_act_X0_say : GoodIn wsL_act wsX0_say := goodIn_ca (goodIn_ca (goodIn_ca (goodIn_r _ [206, 30, 31, 28, 32, 33, 34, 207, 208, 209, 116, 117, 35, 36, 37, 38, 39, 40, 41, 42, 43, 44, 45, 46, 47, 48, 49, 50, 51, 52, 53, 54, 55, 56, 57, 58, 59, 60, 61, 62, 63, 64, 65, 66, 67, 68, 69, 70, 71, 72, 73, 74, 75, 76, 77, 78, 79, 80, 81, 82, 83, 84, 85, 86, 87, 88, 89, 90, 91, 6, 92, 93, 5, 7, 94, 95, 96, 97, 98, 99, 100, 101, 102, 103, 104, 105, 106, 107, 108, 109, 110, 111, 213, 214, 215, 216, 217, 218, 219, 220, 221, 222] (by decide +kernel) (by decide +kernel)) (goodIn_sub (fun _ h => List.mem_cons_of_mem _ (List.mem_append_left _ (List.mem_append_left _ (List.mem_append_right _ h)))) (by decide +kernel))) (goodIn_sub (fun _ h => List.mem_cons_of_mem _ (List.mem_append_right _ h)) (by decide +kernel))) (goodIn_sub (fun _ h => List.mem_cons_of_mem _ (List.mem_append_left _ (List.mem_append_right _ h))) (by decide +kernel))
set_option maxRecDepth 20000 in
theorem gL_act_X0_say : GoodIn wsL_act (wsV RL 68 RX0 yX0_say wsX0_say) := goodIn_app (goodIn_of _ (by decide +kernel)) ggL_act_X0_say
theorem dL_act_0 : decode cL_act 0 = .ok (.aload_n 1, 1) := by decide +kernel
theorem dL_act_1 : decode cL_act 1 = .ok (.getfield 9, 3) := by decide +kernel
theorem dL_act_4 : decode cL_act 4 = .ok (.arraylength, 1) := by decide +kernel
theorem dL_act_5 : decode cL_act 5 = .ok (.istore_n 3, 1) := by decide +kernel
theorem dL_act_6 : decode cL_act 6 = .ok (.aload_n 1, 1) := by decide +kernel
theorem dL_act_7 : decode cL_act 7 = .ok (.invokevirtual 15, 3) := by decide +kernel
theorem dL_act_10 : decode cL_act 10 = .ok (.astore 4, 2) := by decide +kernel
theorem dL_act_12 : decode cL_act 12 = .ok (.aload 4, 2) := by decide +kernel
theorem dL_act_14 : decode cL_act 14 = .ok (.arraylength, 1) := by decide +kernel
theorem dL_act_15 : decode cL_act 15 = .ok (.iconst 1, 1) := by decide +kernel
theorem dL_act_16 : decode cL_act 16 = .ok (.isub, 1) := by decide +kernel
theorem dL_act_17 : decode cL_act 17 = .ok (.istore 5, 2) := by decide +kernel
theorem dL_act_19 : decode cL_act 19 = .ok (.iload_n 2, 1) := by decide +kernel
theorem dL_act_20 : decode cL_act 20 = .ok (.bipush 9, 2) := by decide +kernel
theorem dL_act_22 : decode cL_act 22 = .ok (.ishr, 1) := by decide +kernel
theorem dL_act_23 : decode cL_act 23 = .ok (.bipush 16, 2) := by decide +kernel
theorem dL_act_25 : decode cL_act 25 = .ok (.invokestatic 19, 3) := by decide +kernel
theorem dL_act_28 : decode cL_act 28 = .ok (.istore 6, 2) := by decide +kernel
theorem dL_act_30 : decode cL_act 30 = .ok (.iload 5, 2) := by decide +kernel
theorem dL_act_32 : decode cL_act 32 = .ok (.iconst 1, 1) := by decide +kernel
theorem dL_act_33 : decode cL_act 33 = .ok (.if_icmp .ge 13, 3) := by decide +kernel
theorem dL_act_36 : decode cL_act 36 = .ok (.iload 6, 2) := by decide +kernel
theorem dL_act_38 : decode cL_act 38 = .ok (.bipush 10, 2) := by decide +kernel
theorem dL_act_40 : decode cL_act 40 = .ok (.if_icmp .le 6, 3) := by decide +kernel
theorem dL_act_43 : decode cL_act 43 = .ok (.iconst 0, 1) := by decide +kernel
theorem dL_act_44 : decode cL_act 44 = .ok (.istore 6, 2) := by decide +kernel
theorem dL_act_46 : decode cL_act 46 = .ok (.iload 5, 2) := by decide +kernel
theorem dL_act_48 : decode cL_act 48 = .ok (.iconst 1, 1) := by decide +kernel
theorem dL_act_49 : decode cL_act 49 = .ok (.if_icmp .ge 7, 3) := by decide +kernel
theorem dL_act_52 : decode cL_act 52 = .ok (.iconst 0, 1) := by decide +kernel
theorem dL_act_53 : decode cL_act 53 = .ok (.goto 11, 3) := by decide +kernel
theorem dL_act_56 : decode cL_act 56 = .ok (.iload_n 2, 1) := by decide +kernel
theorem dL_act_57 : decode cL_act 57 = .ok (.iconst 2, 1) := by decide +kernel
theorem dL_act_58 : decode cL_act 58 = .ok (.ishr, 1) := by decide +kernel
theorem dL_act_59 : decode cL_act 59 = .ok (.iload 5, 2) := by decide +kernel
theorem dL_act_61 : decode cL_act 61 = .ok (.invokestatic 19, 3) := by decide +kernel
theorem dL_act_64 : decode cL_act 64 = .ok (.istore 7, 2) := by decide +kernel
theorem dL_act_66 : decode cL_act 66 = .ok (.iload 6, 2) := by decide +kernel
theorem dL_act_68 : decode cL_act 68 = .ok (.tableswitch 402 7 15 #[52, 52, 109, 168, 254, 254, 334, 334, 334], 52) := by decide +kernel
theorem dL_act_120 : decode cL_act 120 = .ok (.iload_n 3, 1) := by decide +kernel
theorem dL_act_121 : decode cL_act 121 = .ok (.bipush 24, 2) := by decide +kernel
theorem dL_act_123 : decode cL_act 123 = .ok (.if_icmp .ne 5, 3) := by decide +kernel
theorem dL_act_126 : decode cL_act 126 = .ok (.iconst 1, 1) := by decide +kernel
theorem dL_act_127 : decode cL_act 127 = .ok (.ireturn, 1) := by decide +kernel
theorem dL_act_128 : decode cL_act 128 = .ok (.aload_n 1, 1) := by decide +kernel
theorem dL_act_129 : decode cL_act 129 = .ok (.iload_n 3, 1) := by decide +kernel
theorem dL_act_130 : decode cL_act 130 = .ok (.iconst 3, 1) := by decide +kernel
theorem dL_act_131 : decode cL_act 131 = .ok (.newarray .int, 2) := by decide +kernel
theorem dL_act_133 : decode cL_act 133 = .ok (.dup, 1) := by decide +kernel
theorem dL_act_134 : decode cL_act 134 = .ok (.iconst 0, 1) := by decide +kernel
theorem dL_act_135 : decode cL_act 135 = .ok (.iload_n 2, 1) := by decide +kernel
theorem dL_act_136 : decode cL_act 136 = .ok (.iconst 1, 1) := by decide +kernel
theorem dL_act_137 : decode cL_act 137 = .ok (.ishr, 1) := by decide +kernel
theorem dL_act_138 : decode cL_act 138 = .ok (.bipush 6, 2) := by decide +kernel
theorem dL_act_140 : decode cL_act 140 = .ok (.invokestatic 19, 3) := by decide +kernel
theorem dL_act_143 : decode cL_act 143 = .ok (.iastore, 1) := by decide +kernel
theorem dL_act_144 : decode cL_act 144 = .ok (.dup, 1) := by decide +kernel
theorem dL_act_145 : decode cL_act 145 = .ok (.iconst 1, 1) := by decide +kernel
theorem dL_act_146 : decode cL_act 146 = .ok (.iconst (-1), 1) := by decide +kernel
theorem dL_act_147 : decode cL_act 147 = .ok (.iastore, 1) := by decide +kernel
theorem dL_act_148 : decode cL_act 148 = .ok (.dup, 1) := by decide +kernel
theorem dL_act_149 : decode cL_act 149 = .ok (.iconst 2, 1) := by decide +kernel
theorem dL_act_150 : decode cL_act 150 = .ok (.iconst 0, 1) := by decide +kernel
theorem dL_act_151 : decode cL_act 151 = .ok (.iastore, 1) := by decide +kernel
theorem dL_act_152 : decode cL_act 152 = .ok (.invokevirtual 25, 3) := by decide +kernel
theorem dL_act_155 : decode cL_act 155 = .ok (.aload_n 0, 1) := by decide +kernel
theorem dL_act_156 : decode cL_act 156 = .ok (.iload_n 2, 1) := by decide +kernel
theorem dL_act_157 : decode cL_act 157 = .ok (.iconst 1, 1) := by decide +kernel
theorem dL_act_158 : decode cL_act 158 = .ok (.ishr, 1) := by decide +kernel
theorem dL_act_159 : decode cL_act 159 = .ok (.bipush 6, 2) := by decide +kernel
theorem dL_act_161 : decode cL_act 161 = .ok (.invokestatic 19, 3) := by decide +kernel
theorem dL_act_164 : decode cL_act 164 = .ok (.invokevirtual 29, 3) := by decide +kernel
theorem dL_act_167 : decode cL_act 167 = .ok (.iload_n 3, 1) := by decide +kernel
theorem dL_act_168 : decode cL_act 168 = .ok (.if_icmp .ne 7, 3) := by decide +kernel
theorem dL_act_171 : decode cL_act 171 = .ok (.iconst 1, 1) := by decide +kernel
theorem dL_act_172 : decode cL_act 172 = .ok (.goto 4, 3) := by decide +kernel
theorem dL_act_175 : decode cL_act 175 = .ok (.iconst 0, 1) := by decide +kernel
theorem dL_act_176 : decode cL_act 176 = .ok (.ireturn, 1) := by decide +kernel
theorem dL_act_177 : decode cL_act 177 = .ok (.iconst 1, 1) := by decide +kernel
theorem dL_act_178 : decode cL_act 178 = .ok (.iload_n 2, 1) := by decide +kernel
theorem dL_act_179 : decode cL_act 179 = .ok (.iconst 2, 1) := by decide +kernel
theorem dL_act_180 : decode cL_act 180 = .ok (.ishr, 1) := by decide +kernel
theorem dL_act_181 : decode cL_act 181 = .ok (.iload_n 2, 1) := by decide +kernel
theorem dL_act_182 : decode cL_act 182 = .ok (.iconst 2, 1) := by decide +kernel
theorem dL_act_183 : decode cL_act 183 = .ok (.invokestatic 19, 3) := by decide +kernel
theorem dL_act_186 : decode cL_act 186 = .ok (.ifCond .ne 8, 3) := by decide +kernel
theorem dL_act_189 : decode cL_act 189 = .ok (.bipush 60, 2) := by decide +kernel
theorem dL_act_191 : decode cL_act 191 = .ok (.goto 4, 3) := by decide +kernel
theorem dL_act_194 : decode cL_act 194 = .ok (.iconst 5, 1) := by decide +kernel
theorem dL_act_195 : decode cL_act 195 = .ok (.invokestatic 19, 3) := by decide +kernel
theorem dL_act_198 : decode cL_act 198 = .ok (.iadd, 1) := by decide +kernel
theorem dL_act_199 : decode cL_act 199 = .ok (.istore 8, 2) := by decide +kernel
theorem dL_act_201 : decode cL_act 201 = .ok (.aload_n 1, 1) := by decide +kernel
theorem dL_act_202 : decode cL_act 202 = .ok (.bipush 99, 2) := by decide +kernel
theorem dL_act_204 : decode cL_act 204 = .ok (.aload_n 1, 1) := by decide +kernel
theorem dL_act_205 : decode cL_act 205 = .ok (.getfield 35, 3) := by decide +kernel
theorem dL_act_208 : decode cL_act 208 = .ok (.iload 8, 2) := by decide +kernel
theorem dL_act_210 : decode cL_act 210 = .ok (.iadd, 1) := by decide +kernel
theorem dL_act_211 : decode cL_act 211 = .ok (.invokestatic 39, 3) := by decide +kernel
theorem dL_act_214 : decode cL_act 214 = .ok (.putfield 35, 3) := by decide +kernel
theorem dL_act_217 : decode cL_act 217 = .ok (.aload_n 0, 1) := by decide +kernel
theorem dL_act_218 : decode cL_act 218 = .ok (.iload 8, 2) := by decide +kernel
theorem dL_act_220 : decode cL_act 220 = .ok (.invokevirtual 44, 3) := by decide +kernel
theorem dL_act_223 : decode cL_act 223 = .ok (.aload_n 1, 1) := by decide +kernel
theorem dL_act_224 : decode cL_act 224 = .ok (.getfield 35, 3) := by decide +kernel
theorem dL_act_227 : decode cL_act 227 = .ok (.if_icmp .ne 7, 3) := by decide +kernel
theorem dL_act_230 : decode cL_act 230 = .ok (.iconst 1, 1) := by decide +kernel
theorem dL_act_231 : decode cL_act 231 = .ok (.goto 4, 3) := by decide +kernel
theorem dL_act_234 : decode cL_act 234 = .ok (.iconst 0, 1) := by decide +kernel
theorem dL_act_235 : decode cL_act 235 = .ok (.ireturn, 1) := by decide +kernel
theorem dL_act_236 : decode cL_act 236 = .ok (.iload_n 3, 1) := by decide +kernel
theorem dL_act_237 : decode cL_act 237 = .ok (.ifCond .ne 7, 3) := by decide +kernel
theorem dL_act_240 : decode cL_act 240 = .ok (.iconst 0, 1) := by decide +kernel
theorem dL_act_241 : decode cL_act 241 = .ok (.goto 10, 3) := by decide +kernel
theorem dL_act_244 : decode cL_act 244 = .ok (.iload_n 2, 1) := by decide +kernel
theorem dL_act_245 : decode cL_act 245 = .ok (.iconst 3, 1) := by decide +kernel
theorem dL_act_246 : decode cL_act 246 = .ok (.ishr, 1) := by decide +kernel
theorem dL_act_247 : decode cL_act 247 = .ok (.iload_n 3, 1) := by decide +kernel
theorem dL_act_248 : decode cL_act 248 = .ok (.invokestatic 19, 3) := by decide +kernel
theorem dL_act_251 : decode cL_act 251 = .ok (.istore 9, 2) := by decide +kernel
theorem dL_act_253 : decode cL_act 253 = .ok (.iload_n 3, 1) := by decide +kernel
theorem dL_act_254 : decode cL_act 254 = .ok (.ifCond .eq 22, 3) := by decide +kernel
theorem dL_act_257 : decode cL_act 257 = .ok (.aload_n 1, 1) := by decide +kernel
theorem dL_act_258 : decode cL_act 258 = .ok (.getfield 9, 3) := by decide +kernel
theorem dL_act_261 : decode cL_act 261 = .ok (.iload 9, 2) := by decide +kernel
theorem dL_act_263 : decode cL_act 263 = .ok (.aaload, 1) := by decide +kernel
theorem dL_act_264 : decode cL_act 264 = .ok (.iconst 1, 1) := by decide +kernel
theorem dL_act_265 : decode cL_act 265 = .ok (.iaload, 1) := by decide +kernel
theorem dL_act_266 : decode cL_act 266 = .ok (.ifCond .ge 10, 3) := by decide +kernel
theorem dL_act_269 : decode cL_act 269 = .ok (.aload_n 1, 1) := by decide +kernel
theorem dL_act_270 : decode cL_act 270 = .ok (.getfield 35, 3) := by decide +kernel
theorem dL_act_273 : decode cL_act 273 = .ok (.ifCond .ne 5, 3) := by decide +kernel
theorem dL_act_276 : decode cL_act 276 = .ok (.iconst 1, 1) := by decide +kernel
theorem dL_act_277 : decode cL_act 277 = .ok (.ireturn, 1) := by decide +kernel
theorem dL_act_278 : decode cL_act 278 = .ok (.aload_n 1, 1) := by decide +kernel
theorem dL_act_279 : decode cL_act 279 = .ok (.iload 9, 2) := by decide +kernel
theorem dL_act_281 : decode cL_act 281 = .ok (.invokevirtual 47, 3) := by decide +kernel
theorem dL_act_284 : decode cL_act 284 = .ok (.aload_n 1, 1) := by decide +kernel
theorem dL_act_285 : decode cL_act 285 = .ok (.dup, 1) := by decide +kernel
theorem dL_act_286 : decode cL_act 286 = .ok (.getfield 35, 3) := by decide +kernel
theorem dL_act_289 : decode cL_act 289 = .ok (.iconst 1, 1) := by decide +kernel
theorem dL_act_290 : decode cL_act 290 = .ok (.isub, 1) := by decide +kernel
theorem dL_act_291 : decode cL_act 291 = .ok (.putfield 35, 3) := by decide +kernel
theorem dL_act_294 : decode cL_act 294 = .ok (.aload_n 1, 1) := by decide +kernel
theorem dL_act_295 : decode cL_act 295 = .ok (.dup, 1) := by decide +kernel
theorem dL_act_296 : decode cL_act 296 = .ok (.getfield 51, 3) := by decide +kernel
theorem dL_act_299 : decode cL_act 299 = .ok (.iconst 1, 1) := by decide +kernel
theorem dL_act_300 : decode cL_act 300 = .ok (.iadd, 1) := by decide +kernel
theorem dL_act_301 : decode cL_act 301 = .ok (.putfield 51, 3) := by decide +kernel
theorem dL_act_304 : decode cL_act 304 = .ok (.aload_n 0, 1) := by decide +kernel
theorem dL_act_305 : decode cL_act 305 = .ok (.iload 9, 2) := by decide +kernel
theorem dL_act_307 : decode cL_act 307 = .ok (.invokevirtual 54, 3) := by decide +kernel
theorem dL_act_310 : decode cL_act 310 = .ok (.iload_n 3, 1) := by decide +kernel
theorem dL_act_311 : decode cL_act 311 = .ok (.iconst 1, 1) := by decide +kernel
theorem dL_act_312 : decode cL_act 312 = .ok (.isub, 1) := by decide +kernel
theorem dL_act_313 : decode cL_act 313 = .ok (.if_icmp .ne 7, 3) := by decide +kernel
theorem dL_act_316 : decode cL_act 316 = .ok (.iconst 1, 1) := by decide +kernel
theorem dL_act_317 : decode cL_act 317 = .ok (.goto 4, 3) := by decide +kernel
theorem dL_act_320 : decode cL_act 320 = .ok (.iconst 0, 1) := by decide +kernel
theorem dL_act_321 : decode cL_act 321 = .ok (.ireturn, 1) := by decide +kernel
theorem dL_act_322 : decode cL_act 322 = .ok (.aload 4, 2) := by decide +kernel
theorem dL_act_324 : decode cL_act 324 = .ok (.iload 7, 2) := by decide +kernel
theorem dL_act_326 : decode cL_act 326 = .ok (.aaload, 1) := by decide +kernel
theorem dL_act_327 : decode cL_act 327 = .ok (.iconst 3, 1) := by decide +kernel
theorem dL_act_328 : decode cL_act 328 = .ok (.iaload, 1) := by decide +kernel
theorem dL_act_329 : decode cL_act 329 = .ok (.iconst 1, 1) := by decide +kernel
theorem dL_act_330 : decode cL_act 330 = .ok (.if_icmp .eq 11, 3) := by decide +kernel
theorem dL_act_333 : decode cL_act 333 = .ok (.aload_n 1, 1) := by decide +kernel
theorem dL_act_334 : decode cL_act 334 = .ok (.getfield 35, 3) := by decide +kernel
theorem dL_act_337 : decode cL_act 337 = .ok (.iconst 3, 1) := by decide +kernel
theorem dL_act_338 : decode cL_act 338 = .ok (.if_icmp .ge 5, 3) := by decide +kernel
theorem dL_act_341 : decode cL_act 341 = .ok (.iconst 1, 1) := by decide +kernel
theorem dL_act_342 : decode cL_act 342 = .ok (.ireturn, 1) := by decide +kernel
theorem dL_act_343 : decode cL_act 343 = .ok (.aload_n 1, 1) := by decide +kernel
theorem dL_act_344 : decode cL_act 344 = .ok (.getfield 9, 3) := by decide +kernel
theorem dL_act_347 : decode cL_act 347 = .ok (.aload 4, 2) := by decide +kernel
theorem dL_act_349 : decode cL_act 349 = .ok (.iload 7, 2) := by decide +kernel
theorem dL_act_351 : decode cL_act 351 = .ok (.aaload, 1) := by decide +kernel
theorem dL_act_352 : decode cL_act 352 = .ok (.iconst 4, 1) := by decide +kernel
theorem dL_act_353 : decode cL_act 353 = .ok (.iaload, 1) := by decide +kernel
theorem dL_act_354 : decode cL_act 354 = .ok (.aaload, 1) := by decide +kernel
theorem dL_act_355 : decode cL_act 355 = .ok (.iconst 2, 1) := by decide +kernel
theorem dL_act_356 : decode cL_act 356 = .ok (.iconst 1, 1) := by decide +kernel
theorem dL_act_357 : decode cL_act 357 = .ok (.iastore, 1) := by decide +kernel
theorem dL_act_358 : decode cL_act 358 = .ok (.aload_n 1, 1) := by decide +kernel
theorem dL_act_359 : decode cL_act 359 = .ok (.dup, 1) := by decide +kernel
theorem dL_act_360 : decode cL_act 360 = .ok (.getfield 35, 3) := by decide +kernel
theorem dL_act_363 : decode cL_act 363 = .ok (.iconst 3, 1) := by decide +kernel
theorem dL_act_364 : decode cL_act 364 = .ok (.isub, 1) := by decide +kernel
theorem dL_act_365 : decode cL_act 365 = .ok (.putfield 35, 3) := by decide +kernel
theorem dL_act_368 : decode cL_act 368 = .ok (.aload_n 1, 1) := by decide +kernel
theorem dL_act_369 : decode cL_act 369 = .ok (.dup, 1) := by decide +kernel
theorem dL_act_370 : decode cL_act 370 = .ok (.getfield 51, 3) := by decide +kernel
theorem dL_act_373 : decode cL_act 373 = .ok (.iconst 3, 1) := by decide +kernel
theorem dL_act_374 : decode cL_act 374 = .ok (.iadd, 1) := by decide +kernel
theorem dL_act_375 : decode cL_act 375 = .ok (.putfield 51, 3) := by decide +kernel
theorem dL_act_378 : decode cL_act 378 = .ok (.aload_n 0, 1) := by decide +kernel
theorem dL_act_379 : decode cL_act 379 = .ok (.iload 7, 2) := by decide +kernel
theorem dL_act_381 : decode cL_act 381 = .ok (.invokevirtual 57, 3) := by decide +kernel
theorem dL_act_384 : decode cL_act 384 = .ok (.aload_n 1, 1) := by decide +kernel
theorem dL_act_385 : decode cL_act 385 = .ok (.invokevirtual 15, 3) := by decide +kernel
theorem dL_act_388 : decode cL_act 388 = .ok (.invokestatic 60, 3) := by decide +kernel
theorem dL_act_391 : decode cL_act 391 = .ok (.iconst 1, 1) := by decide +kernel
theorem dL_act_392 : decode cL_act 392 = .ok (.iadd, 1) := by decide +kernel
theorem dL_act_393 : decode cL_act 393 = .ok (.if_icmp .ne 7, 3) := by decide +kernel
theorem dL_act_396 : decode cL_act 396 = .ok (.iconst 1, 1) := by decide +kernel
theorem dL_act_397 : decode cL_act 397 = .ok (.goto 4, 3) := by decide +kernel
theorem dL_act_400 : decode cL_act 400 = .ok (.iconst 0, 1) := by decide +kernel
theorem dL_act_401 : decode cL_act 401 = .ok (.ireturn, 1) := by decide +kernel
theorem dL_act_402 : decode cL_act 402 = .ok (.aload 4, 2) := by decide +kernel
theorem dL_act_404 : decode cL_act 404 = .ok (.iload 7, 2) := by decide +kernel
theorem dL_act_406 : decode cL_act 406 = .ok (.aaload, 1) := by decide +kernel
theorem dL_act_407 : decode cL_act 407 = .ok (.iconst 3, 1) := by decide +kernel
theorem dL_act_408 : decode cL_act 408 = .ok (.iaload, 1) := by decide +kernel
theorem dL_act_409 : decode cL_act 409 = .ok (.iconst 1, 1) := by decide +kernel
theorem dL_act_410 : decode cL_act 410 = .ok (.if_icmp .eq 17, 3) := by decide +kernel
theorem dL_act_413 : decode cL_act 413 = .ok (.iload_n 3, 1) := by decide +kernel
theorem dL_act_414 : decode cL_act 414 = .ok (.bipush 24, 2) := by decide +kernel
theorem dL_act_416 : decode cL_act 416 = .ok (.if_icmp .eq 11, 3) := by decide +kernel
theorem dL_act_419 : decode cL_act 419 = .ok (.aload_n 1, 1) := by decide +kernel
theorem dL_act_420 : decode cL_act 420 = .ok (.getfield 35, 3) := by decide +kernel
theorem dL_act_423 : decode cL_act 423 = .ok (.iconst 2, 1) := by decide +kernel
theorem dL_act_424 : decode cL_act 424 = .ok (.if_icmp .ge 5, 3) := by decide +kernel
theorem dL_act_427 : decode cL_act 427 = .ok (.iconst 1, 1) := by decide +kernel
theorem dL_act_428 : decode cL_act 428 = .ok (.ireturn, 1) := by decide +kernel
theorem dL_act_429 : decode cL_act 429 = .ok (.aload_n 1, 1) := by decide +kernel
theorem dL_act_430 : decode cL_act 430 = .ok (.dup, 1) := by decide +kernel
theorem dL_act_431 : decode cL_act 431 = .ok (.getfield 35, 3) := by decide +kernel
theorem dL_act_434 : decode cL_act 434 = .ok (.iconst 2, 1) := by decide +kernel
theorem dL_act_435 : decode cL_act 435 = .ok (.isub, 1) := by decide +kernel
theorem dL_act_436 : decode cL_act 436 = .ok (.putfield 35, 3) := by decide +kernel
theorem dL_act_439 : decode cL_act 439 = .ok (.aload_n 1, 1) := by decide +kernel
theorem dL_act_440 : decode cL_act 440 = .ok (.dup, 1) := by decide +kernel
theorem dL_act_441 : decode cL_act 441 = .ok (.getfield 51, 3) := by decide +kernel
theorem dL_act_444 : decode cL_act 444 = .ok (.iconst 2, 1) := by decide +kernel
theorem dL_act_445 : decode cL_act 445 = .ok (.iadd, 1) := by decide +kernel
theorem dL_act_446 : decode cL_act 446 = .ok (.putfield 51, 3) := by decide +kernel
theorem dL_act_449 : decode cL_act 449 = .ok (.aload_n 0, 1) := by decide +kernel
theorem dL_act_450 : decode cL_act 450 = .ok (.iload 7, 2) := by decide +kernel
theorem dL_act_452 : decode cL_act 452 = .ok (.invokevirtual 64, 3) := by decide +kernel
theorem dL_act_455 : decode cL_act 455 = .ok (.aload_n 1, 1) := by decide +kernel
theorem dL_act_456 : decode cL_act 456 = .ok (.iload 7, 2) := by decide +kernel
theorem dL_act_458 : decode cL_act 458 = .ok (.invokevirtual 67, 3) := by decide +kernel
theorem dL_act_461 : decode cL_act 461 = .ok (.if_icmp .ne 7, 3) := by decide +kernel
theorem dL_act_464 : decode cL_act 464 = .ok (.iconst 1, 1) := by decide +kernel
theorem dL_act_465 : decode cL_act 465 = .ok (.goto 4, 3) := by decide +kernel
theorem dL_act_468 : decode cL_act 468 = .ok (.iconst 0, 1) := by decide +kernel
theorem dL_act_469 : decode cL_act 469 = .ok (.ireturn, 1) := by decide +kernel
theorem dL_act_470 : decode cL_act 470 = .ok (.iload_n 3, 1) := by decide +kernel
theorem dL_act_471 : decode cL_act 471 = .ok (.bipush 24, 2) := by decide +kernel
theorem dL_act_473 : decode cL_act 473 = .ok (.if_icmp .ne 5, 3) := by decide +kernel
theorem dL_act_476 : decode cL_act 476 = .ok (.iconst 1, 1) := by decide +kernel
theorem dL_act_477 : decode cL_act 477 = .ok (.ireturn, 1) := by decide +kernel
theorem dL_act_478 : decode cL_act 478 = .ok (.iload_n 2, 1) := by decide +kernel
theorem dL_act_479 : decode cL_act 479 = .ok (.iconst 1, 1) := by decide +kernel
theorem dL_act_480 : decode cL_act 480 = .ok (.ishr, 1) := by decide +kernel
theorem dL_act_481 : decode cL_act 481 = .ok (.iload_n 2, 1) := by decide +kernel
theorem dL_act_482 : decode cL_act 482 = .ok (.iconst 2, 1) := by decide +kernel
theorem dL_act_483 : decode cL_act 483 = .ok (.invokestatic 19, 3) := by decide +kernel
theorem dL_act_486 : decode cL_act 486 = .ok (.ifCond .ne 8, 3) := by decide +kernel
theorem dL_act_489 : decode cL_act 489 = .ok (.bipush 6, 2) := by decide +kernel
theorem dL_act_491 : decode cL_act 491 = .ok (.goto 4, 3) := by decide +kernel
theorem dL_act_494 : decode cL_act 494 = .ok (.iconst 2, 1) := by decide +kernel
theorem dL_act_495 : decode cL_act 495 = .ok (.invokestatic 19, 3) := by decide +kernel
theorem dL_act_498 : decode cL_act 498 = .ok (.istore 10, 2) := by decide +kernel
theorem dL_act_500 : decode cL_act 500 = .ok (.iload_n 2, 1) := by decide +kernel
theorem dL_act_501 : decode cL_act 501 = .ok (.iconst 4, 1) := by decide +kernel
theorem dL_act_502 : decode cL_act 502 = .ok (.ishr, 1) := by decide +kernel
theorem dL_act_503 : decode cL_act 503 = .ok (.bipush 10, 2) := by decide +kernel
theorem dL_act_505 : decode cL_act 505 = .ok (.invokestatic 19, 3) := by decide +kernel
theorem dL_act_508 : decode cL_act 508 = .ok (.istore 11, 2) := by decide +kernel
theorem dL_act_510 : decode cL_act 510 = .ok (.aload_n 1, 1) := by decide +kernel
theorem dL_act_511 : decode cL_act 511 = .ok (.iload_n 3, 1) := by decide +kernel
theorem dL_act_512 : decode cL_act 512 = .ok (.iconst 3, 1) := by decide +kernel
theorem dL_act_513 : decode cL_act 513 = .ok (.newarray .int, 2) := by decide +kernel
theorem dL_act_515 : decode cL_act 515 = .ok (.dup, 1) := by decide +kernel
theorem dL_act_516 : decode cL_act 516 = .ok (.iconst 0, 1) := by decide +kernel
theorem dL_act_517 : decode cL_act 517 = .ok (.iload 10, 2) := by decide +kernel
theorem dL_act_519 : decode cL_act 519 = .ok (.iastore, 1) := by decide +kernel
theorem dL_act_520 : decode cL_act 520 = .ok (.dup, 1) := by decide +kernel
theorem dL_act_521 : decode cL_act 521 = .ok (.iconst 1, 1) := by decide +kernel
theorem dL_act_522 : decode cL_act 522 = .ok (.iload 11, 2) := by decide +kernel
theorem dL_act_524 : decode cL_act 524 = .ok (.iastore, 1) := by decide +kernel
theorem dL_act_525 : decode cL_act 525 = .ok (.dup, 1) := by decide +kernel
theorem dL_act_526 : decode cL_act 526 = .ok (.iconst 2, 1) := by decide +kernel
theorem dL_act_527 : decode cL_act 527 = .ok (.iconst 0, 1) := by decide +kernel
theorem dL_act_528 : decode cL_act 528 = .ok (.iastore, 1) := by decide +kernel
theorem dL_act_529 : decode cL_act 529 = .ok (.invokevirtual 25, 3) := by decide +kernel
theorem dL_act_532 : decode cL_act 532 = .ok (.aload_n 0, 1) := by decide +kernel
theorem dL_act_533 : decode cL_act 533 = .ok (.iload 10, 2) := by decide +kernel
theorem dL_act_535 : decode cL_act 535 = .ok (.iload 11, 2) := by decide +kernel
theorem dL_act_537 : decode cL_act 537 = .ok (.invokevirtual 68, 3) := by decide +kernel
theorem dL_act_540 : decode cL_act 540 = .ok (.iload_n 3, 1) := by decide +kernel
theorem dL_act_541 : decode cL_act 541 = .ok (.if_icmp .ne 7, 3) := by decide +kernel
theorem dL_act_544 : decode cL_act 544 = .ok (.iconst 1, 1) := by decide +kernel
theorem dL_act_545 : decode cL_act 545 = .ok (.goto 4, 3) := by decide +kernel
theorem dL_act_548 : decode cL_act 548 = .ok (.iconst 0, 1) := by decide +kernel
theorem dL_act_549 : decode cL_act 549 = .ok (.ireturn, 1) := by decide +kernel
set_option maxRecDepth 20000 in
theorem ggL_build_X1_init : GoodIn wsL_build wsX1_init := goodIn_r _ [5, 6, 7, 8, 9, 10, 11, 225, 226, 227] (by decide +kernel) (by decide +kernel)
set_option maxRecDepth 20000 in
theorem gL_build_X1_init_n71 : GoodIn wsL_build (wsX1_init) := ggL_build_X1_init
set_option maxRecDepth 20000 in
theorem ggL_build_L_cell : GoodIn wsL_build wsL_cell := goodIn_r _ [15, 16] (by decide +kernel) (by decide +kernel)
set_option maxRecDepth 20000 in
theorem gL_build_L_cell : GoodIn wsL_build (va_wsS RL 72 yL_cell wsL_cell) := goodIn_app (goodIn_of _ (by decide +kernel)) ggL_build_L_cell
set_option maxRecDepth 20000 in
theorem ggL_build_L_below : GoodIn wsL_build wsL_below := goodIn_r _ [19, 20] (by decide +kernel) (by decide +kernel)
set_option maxRecDepth 20000 in
theorem gL_build_L_below : GoodIn wsL_build (va_wsS RL 19 yL_below wsL_below) := goodIn_app (goodIn_of _ (by decide +kernel)) ggL_build_L_below
set_option maxRecDepth 20000 in
theorem ggL_build_L_act : GoodIn wsL_build wsL_act := goodIn_ca (goodIn_ca (goodIn_ca (goodIn_r _ [23, 24, 25, 26, 27, 28, 29, 30, 31, 32, 33, 34, 3, 35, 11, 10, 17, 18, 14, 19, 20, 36, 37, 38, 39, 40, 41, 42, 43, 44, 45, 46, 47, 48, 49, 50, 51, 52, 53, 54, 55, 56, 57, 58, 59, 60, 61, 62, 63, 64, 65, 66, 67, 68, 69, 70, 71, 72, 73, 74, 75, 76, 77, 78, 79, 80, 81, 82, 83, 84, 85, 86, 87, 88, 89, 90, 91, 92, 93, 94, 95, 96, 97, 98, 99, 100, 101, 102, 103, 104, 105, 106, 107, 108, 109, 110, 111, 112, 113, 114, 115, 116, 117, 118, 119, 120, 121, 122, 123, 124, 125, 126, 127, 128, 129, 130, 131, 132, 133, 134, 135, 136, 137, 138, 139, 140, 141, 142, 143, 144, 145, 146, 147, 148, 149, 150, 151, 152, 153, 154, 155, 156, 157, 158, 159, 160, 161, 162, 163, 164, 165, 166, 167, 168, 169, 170, 171, 172, 173, 174, 175, 176, 177, 178, 179, 180, 181, 182, 183, 184, 185, 186, 187, 188, 189, 190, 191, 192, 193, 194, 195, 196, 197, 198, 199, 200, 201, 202, 203, 204, 205, 206, 207, 208, 209, 210, 211, 212, 213, 214, 215, 216, 217, 218, 219, 220, 221, 222, 223, 224, 225, 226, 227, 228, 229, 230, 231, 232, 233, 234, 235, 236, 237] (by rfl) (by decide +kernel)) (goodIn_sub (fun _ h => List.mem_cons_of_mem _ (List.mem_append_left _ (List.mem_append_left _ (List.mem_append_right _ h)))) (by decide +kernel))) (goodIn_sub (fun _ h => List.mem_cons_of_mem _ (List.mem_append_left _ (List.mem_append_right _ h))) (by decide +kernel))) (goodIn_sub (fun _ h => List.mem_cons_of_mem _ (List.mem_append_right _ h)) (by decide +kernel))
set_option maxRecDepth 20000 in
theorem gL_build_L_act : GoodIn wsL_build (va_wsS RL 76 yL_act wsL_act) := goodIn_app (goodIn_of _ (by decide +kernel)) ggL_build_L_act
theorem dL_build_0 : decode cL_build 0 = .ok (.new 10, 3) := by decide +kernel
theorem dL_build_3 : decode cL_build 3 = .ok (.dup, 1) := by decide +kernel
