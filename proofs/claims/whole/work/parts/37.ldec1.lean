theorem dL_law_310 : decode code 310 = .ok (.bipush 32, 2) := by decide +kernel
theorem dL_law_312 : decode code 312 = .ok (.lshl, 1) := by decide +kernel
theorem dL_law_313 : decode code 313 = .ok (.aload_n 0, 1) := by decide +kernel
theorem dL_law_314 : decode code 314 = .ok (.iload_n 3, 1) := by decide +kernel
theorem dL_law_315 : decode code 315 = .ok (.iconst 4, 1) := by decide +kernel
theorem dL_law_316 : decode code 316 = .ok (.iadd, 1) := by decide +kernel
theorem dL_law_317 : decode code 317 = .ok (.iaload, 1) := by decide +kernel
theorem dL_law_318 : decode code 318 = .ok (.i2l, 1) := by decide +kernel
theorem dL_law_319 : decode code 319 = .ok (.ldc2_w 26, 3) := by decide +kernel
theorem dL_law_322 : decode code 322 = .ok (.land, 1) := by decide +kernel
theorem dL_law_323 : decode code 323 = .ok (.lor, 1) := by decide +kernel
theorem dL_law_324 : decode code 324 = .ok (.invokevirtual 38, 3) := by decide +kernel
theorem dL_law_327 : decode code 327 = .ok (.aload_n 2, 1) := by decide +kernel
theorem dL_law_328 : decode code 328 = .ok (.aload_n 0, 1) := by decide +kernel
theorem dL_law_329 : decode code 329 = .ok (.iload_n 3, 1) := by decide +kernel
theorem dL_law_330 : decode code 330 = .ok (.iconst 1, 1) := by decide +kernel
theorem dL_law_331 : decode code 331 = .ok (.iadd, 1) := by decide +kernel
theorem dL_law_332 : decode code 332 = .ok (.iaload, 1) := by decide +kernel
theorem dL_law_333 : decode code 333 = .ok (.aload_n 0, 1) := by decide +kernel
theorem dL_law_334 : decode code 334 = .ok (.iload_n 3, 1) := by decide +kernel
theorem dL_law_335 : decode code 335 = .ok (.iconst 2, 1) := by decide +kernel
theorem dL_law_336 : decode code 336 = .ok (.iadd, 1) := by decide +kernel
theorem dL_law_337 : decode code 337 = .ok (.iaload, 1) := by decide +kernel
theorem dL_law_338 : decode code 338 = .ok (.aload_n 0, 1) := by decide +kernel
theorem dL_law_339 : decode code 339 = .ok (.iload_n 3, 1) := by decide +kernel
theorem dL_law_340 : decode code 340 = .ok (.iconst 3, 1) := by decide +kernel
theorem dL_law_341 : decode code 341 = .ok (.iadd, 1) := by decide +kernel
theorem dL_law_342 : decode code 342 = .ok (.iaload, 1) := by decide +kernel
theorem dL_law_343 : decode code 343 = .ok (.i2l, 1) := by decide +kernel
theorem dL_law_344 : decode code 344 = .ok (.bipush 32, 2) := by decide +kernel
theorem dL_law_346 : decode code 346 = .ok (.lshl, 1) := by decide +kernel
theorem dL_law_347 : decode code 347 = .ok (.aload_n 0, 1) := by decide +kernel
theorem dL_law_348 : decode code 348 = .ok (.iload_n 3, 1) := by decide +kernel
theorem dL_law_349 : decode code 349 = .ok (.iconst 4, 1) := by decide +kernel
theorem dL_law_350 : decode code 350 = .ok (.iadd, 1) := by decide +kernel
theorem dL_law_351 : decode code 351 = .ok (.iaload, 1) := by decide +kernel
theorem dL_law_352 : decode code 352 = .ok (.i2l, 1) := by decide +kernel
theorem dL_law_353 : decode code 353 = .ok (.ldc2_w 26, 3) := by decide +kernel
theorem dL_law_356 : decode code 356 = .ok (.land, 1) := by decide +kernel
theorem dL_law_357 : decode code 357 = .ok (.lor, 1) := by decide +kernel
theorem dL_law_358 : decode code 358 = .ok (.invokevirtual 42, 3) := by decide +kernel
theorem dL_law_361 : decode code 361 = .ok (.if_icmp .eq 582, 3) := by decide +kernel
theorem dL_law_364 : decode code 364 = .ok (.iconst 0, 1) := by decide +kernel
theorem dL_law_365 : decode code 365 = .ok (.ireturn, 1) := by decide +kernel
theorem dL_law_366 : decode code 366 = .ok (.aload_n 1, 1) := by decide +kernel
theorem dL_law_367 : decode code 367 = .ok (.aload_n 0, 1) := by decide +kernel
theorem dL_law_368 : decode code 368 = .ok (.iload_n 3, 1) := by decide +kernel
theorem dL_law_369 : decode code 369 = .ok (.iconst 1, 1) := by decide +kernel
theorem dL_law_370 : decode code 370 = .ok (.iadd, 1) := by decide +kernel
theorem dL_law_371 : decode code 371 = .ok (.iaload, 1) := by decide +kernel
theorem dL_law_372 : decode code 372 = .ok (.aload_n 0, 1) := by decide +kernel
theorem dL_law_373 : decode code 373 = .ok (.iload_n 3, 1) := by decide +kernel
theorem dL_law_374 : decode code 374 = .ok (.iconst 2, 1) := by decide +kernel
theorem dL_law_375 : decode code 375 = .ok (.iadd, 1) := by decide +kernel
theorem dL_law_376 : decode code 376 = .ok (.iaload, 1) := by decide +kernel
theorem dL_law_377 : decode code 377 = .ok (.aload_n 0, 1) := by decide +kernel
theorem dL_law_378 : decode code 378 = .ok (.iload_n 3, 1) := by decide +kernel
theorem dL_law_379 : decode code 379 = .ok (.iconst 3, 1) := by decide +kernel
theorem dL_law_380 : decode code 380 = .ok (.iadd, 1) := by decide +kernel
theorem dL_law_381 : decode code 381 = .ok (.iaload, 1) := by decide +kernel
theorem dL_law_382 : decode code 382 = .ok (.i2l, 1) := by decide +kernel
theorem dL_law_383 : decode code 383 = .ok (.bipush 32, 2) := by decide +kernel
theorem dL_law_385 : decode code 385 = .ok (.lshl, 1) := by decide +kernel
theorem dL_law_386 : decode code 386 = .ok (.aload_n 0, 1) := by decide +kernel
theorem dL_law_387 : decode code 387 = .ok (.iload_n 3, 1) := by decide +kernel
theorem dL_law_388 : decode code 388 = .ok (.iconst 4, 1) := by decide +kernel
theorem dL_law_389 : decode code 389 = .ok (.iadd, 1) := by decide +kernel
theorem dL_law_390 : decode code 390 = .ok (.iaload, 1) := by decide +kernel
theorem dL_law_391 : decode code 391 = .ok (.i2l, 1) := by decide +kernel
theorem dL_law_392 : decode code 392 = .ok (.ldc2_w 26, 3) := by decide +kernel
theorem dL_law_395 : decode code 395 = .ok (.land, 1) := by decide +kernel
theorem dL_law_396 : decode code 396 = .ok (.lor, 1) := by decide +kernel
theorem dL_law_397 : decode code 397 = .ok (.invokevirtual 43, 3) := by decide +kernel
theorem dL_law_400 : decode code 400 = .ok (.aload_n 2, 1) := by decide +kernel
theorem dL_law_401 : decode code 401 = .ok (.aload_n 0, 1) := by decide +kernel
theorem dL_law_402 : decode code 402 = .ok (.iload_n 3, 1) := by decide +kernel
theorem dL_law_403 : decode code 403 = .ok (.iconst 1, 1) := by decide +kernel
theorem dL_law_404 : decode code 404 = .ok (.iadd, 1) := by decide +kernel
theorem dL_law_405 : decode code 405 = .ok (.iaload, 1) := by decide +kernel
theorem dL_law_406 : decode code 406 = .ok (.aload_n 0, 1) := by decide +kernel
theorem dL_law_407 : decode code 407 = .ok (.iload_n 3, 1) := by decide +kernel
theorem dL_law_408 : decode code 408 = .ok (.iconst 2, 1) := by decide +kernel
theorem dL_law_409 : decode code 409 = .ok (.iadd, 1) := by decide +kernel
theorem dL_law_410 : decode code 410 = .ok (.iaload, 1) := by decide +kernel
theorem dL_law_411 : decode code 411 = .ok (.aload_n 0, 1) := by decide +kernel
theorem dL_law_412 : decode code 412 = .ok (.iload_n 3, 1) := by decide +kernel
theorem dL_law_413 : decode code 413 = .ok (.iconst 3, 1) := by decide +kernel
theorem dL_law_414 : decode code 414 = .ok (.iadd, 1) := by decide +kernel
theorem dL_law_415 : decode code 415 = .ok (.iaload, 1) := by decide +kernel
theorem dL_law_416 : decode code 416 = .ok (.i2l, 1) := by decide +kernel
theorem dL_law_417 : decode code 417 = .ok (.bipush 32, 2) := by decide +kernel
theorem dL_law_419 : decode code 419 = .ok (.lshl, 1) := by decide +kernel
theorem dL_law_420 : decode code 420 = .ok (.aload_n 0, 1) := by decide +kernel
theorem dL_law_421 : decode code 421 = .ok (.iload_n 3, 1) := by decide +kernel
theorem dL_law_422 : decode code 422 = .ok (.iconst 4, 1) := by decide +kernel
theorem dL_law_423 : decode code 423 = .ok (.iadd, 1) := by decide +kernel
theorem dL_law_424 : decode code 424 = .ok (.iaload, 1) := by decide +kernel
theorem dL_law_425 : decode code 425 = .ok (.i2l, 1) := by decide +kernel
theorem dL_law_426 : decode code 426 = .ok (.ldc2_w 26, 3) := by decide +kernel
theorem dL_law_429 : decode code 429 = .ok (.land, 1) := by decide +kernel
theorem dL_law_430 : decode code 430 = .ok (.lor, 1) := by decide +kernel
theorem dL_law_431 : decode code 431 = .ok (.invokevirtual 46, 3) := by decide +kernel
theorem dL_law_434 : decode code 434 = .ok (.if_icmp .eq 509, 3) := by decide +kernel
theorem dL_law_437 : decode code 437 = .ok (.iconst 0, 1) := by decide +kernel
theorem dL_law_438 : decode code 438 = .ok (.ireturn, 1) := by decide +kernel
theorem dL_law_439 : decode code 439 = .ok (.aload_n 1, 1) := by decide +kernel
theorem dL_law_440 : decode code 440 = .ok (.aload_n 0, 1) := by decide +kernel
theorem dL_law_441 : decode code 441 = .ok (.iload_n 3, 1) := by decide +kernel
theorem dL_law_442 : decode code 442 = .ok (.iconst 1, 1) := by decide +kernel
theorem dL_law_443 : decode code 443 = .ok (.iadd, 1) := by decide +kernel
theorem dL_law_444 : decode code 444 = .ok (.iaload, 1) := by decide +kernel
theorem dL_law_445 : decode code 445 = .ok (.aload_n 0, 1) := by decide +kernel
theorem dL_law_446 : decode code 446 = .ok (.iload_n 3, 1) := by decide +kernel
theorem dL_law_447 : decode code 447 = .ok (.iconst 2, 1) := by decide +kernel
theorem dL_law_448 : decode code 448 = .ok (.iadd, 1) := by decide +kernel
theorem dL_law_449 : decode code 449 = .ok (.iaload, 1) := by decide +kernel
theorem dL_law_450 : decode code 450 = .ok (.aload_n 0, 1) := by decide +kernel
theorem dL_law_451 : decode code 451 = .ok (.iload_n 3, 1) := by decide +kernel
theorem dL_law_452 : decode code 452 = .ok (.iconst 3, 1) := by decide +kernel
theorem dL_law_453 : decode code 453 = .ok (.iadd, 1) := by decide +kernel
theorem dL_law_454 : decode code 454 = .ok (.iaload, 1) := by decide +kernel
theorem dL_law_455 : decode code 455 = .ok (.i2l, 1) := by decide +kernel
theorem dL_law_456 : decode code 456 = .ok (.bipush 32, 2) := by decide +kernel
theorem dL_law_458 : decode code 458 = .ok (.lshl, 1) := by decide +kernel
theorem dL_law_459 : decode code 459 = .ok (.aload_n 0, 1) := by decide +kernel
theorem dL_law_460 : decode code 460 = .ok (.iload_n 3, 1) := by decide +kernel
theorem dL_law_461 : decode code 461 = .ok (.iconst 4, 1) := by decide +kernel
theorem dL_law_462 : decode code 462 = .ok (.iadd, 1) := by decide +kernel
theorem dL_law_463 : decode code 463 = .ok (.iaload, 1) := by decide +kernel
theorem dL_law_464 : decode code 464 = .ok (.i2l, 1) := by decide +kernel
theorem dL_law_465 : decode code 465 = .ok (.ldc2_w 26, 3) := by decide +kernel
theorem dL_law_468 : decode code 468 = .ok (.land, 1) := by decide +kernel
theorem dL_law_469 : decode code 469 = .ok (.lor, 1) := by decide +kernel
theorem dL_law_470 : decode code 470 = .ok (.invokevirtual 47, 3) := by decide +kernel
theorem dL_law_473 : decode code 473 = .ok (.aload_n 2, 1) := by decide +kernel
theorem dL_law_474 : decode code 474 = .ok (.aload_n 0, 1) := by decide +kernel
theorem dL_law_475 : decode code 475 = .ok (.iload_n 3, 1) := by decide +kernel
theorem dL_law_476 : decode code 476 = .ok (.iconst 1, 1) := by decide +kernel
theorem dL_law_477 : decode code 477 = .ok (.iadd, 1) := by decide +kernel
theorem dL_law_478 : decode code 478 = .ok (.iaload, 1) := by decide +kernel
theorem dL_law_479 : decode code 479 = .ok (.aload_n 0, 1) := by decide +kernel
theorem dL_law_480 : decode code 480 = .ok (.iload_n 3, 1) := by decide +kernel
theorem dL_law_481 : decode code 481 = .ok (.iconst 2, 1) := by decide +kernel
theorem dL_law_482 : decode code 482 = .ok (.iadd, 1) := by decide +kernel
theorem dL_law_483 : decode code 483 = .ok (.iaload, 1) := by decide +kernel
theorem dL_law_484 : decode code 484 = .ok (.aload_n 0, 1) := by decide +kernel
theorem dL_law_485 : decode code 485 = .ok (.iload_n 3, 1) := by decide +kernel
theorem dL_law_486 : decode code 486 = .ok (.iconst 3, 1) := by decide +kernel
theorem dL_law_487 : decode code 487 = .ok (.iadd, 1) := by decide +kernel
theorem dL_law_488 : decode code 488 = .ok (.iaload, 1) := by decide +kernel
theorem dL_law_489 : decode code 489 = .ok (.i2l, 1) := by decide +kernel
theorem dL_law_490 : decode code 490 = .ok (.bipush 32, 2) := by decide +kernel
theorem dL_law_492 : decode code 492 = .ok (.lshl, 1) := by decide +kernel
theorem dL_law_493 : decode code 493 = .ok (.aload_n 0, 1) := by decide +kernel
theorem dL_law_494 : decode code 494 = .ok (.iload_n 3, 1) := by decide +kernel
theorem dL_law_495 : decode code 495 = .ok (.iconst 4, 1) := by decide +kernel
theorem dL_law_496 : decode code 496 = .ok (.iadd, 1) := by decide +kernel
theorem dL_law_497 : decode code 497 = .ok (.iaload, 1) := by decide +kernel
theorem dL_law_498 : decode code 498 = .ok (.i2l, 1) := by decide +kernel
theorem dL_law_499 : decode code 499 = .ok (.ldc2_w 26, 3) := by decide +kernel
theorem dL_law_502 : decode code 502 = .ok (.land, 1) := by decide +kernel
theorem dL_law_503 : decode code 503 = .ok (.lor, 1) := by decide +kernel
theorem dL_law_504 : decode code 504 = .ok (.invokevirtual 50, 3) := by decide +kernel
theorem dL_law_507 : decode code 507 = .ok (.if_icmp .eq 436, 3) := by decide +kernel
theorem dL_law_510 : decode code 510 = .ok (.iconst 0, 1) := by decide +kernel
theorem dL_law_511 : decode code 511 = .ok (.ireturn, 1) := by decide +kernel
theorem dL_law_512 : decode code 512 = .ok (.aload_n 1, 1) := by decide +kernel
theorem dL_law_513 : decode code 513 = .ok (.aload_n 0, 1) := by decide +kernel
theorem dL_law_514 : decode code 514 = .ok (.iload_n 3, 1) := by decide +kernel
theorem dL_law_515 : decode code 515 = .ok (.iconst 1, 1) := by decide +kernel
