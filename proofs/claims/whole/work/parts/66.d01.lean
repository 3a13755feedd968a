theorem dL_328 : decode code 328 = .ok (.aload_n 0, 1) := by decide +kernel
theorem dL_329 : decode code 329 = .ok (.iload_n 3, 1) := by decide +kernel
theorem dL_330 : decode code 330 = .ok (.iconst 2, 1) := by decide +kernel
theorem dL_331 : decode code 331 = .ok (.iadd, 1) := by decide +kernel
theorem dL_332 : decode code 332 = .ok (.iaload, 1) := by decide +kernel
theorem dL_333 : decode code 333 = .ok (.invokevirtual 40, 3) := by decide +kernel
theorem dL_336 : decode code 336 = .ok (.aload_n 2, 1) := by decide +kernel
theorem dL_337 : decode code 337 = .ok (.aload_n 0, 1) := by decide +kernel
theorem dL_338 : decode code 338 = .ok (.iload_n 3, 1) := by decide +kernel
theorem dL_339 : decode code 339 = .ok (.iconst 1, 1) := by decide +kernel
theorem dL_340 : decode code 340 = .ok (.iadd, 1) := by decide +kernel
theorem dL_341 : decode code 341 = .ok (.iaload, 1) := by decide +kernel
theorem dL_342 : decode code 342 = .ok (.aload_n 0, 1) := by decide +kernel
theorem dL_343 : decode code 343 = .ok (.iload_n 3, 1) := by decide +kernel
theorem dL_344 : decode code 344 = .ok (.iconst 2, 1) := by decide +kernel
theorem dL_345 : decode code 345 = .ok (.iadd, 1) := by decide +kernel
theorem dL_346 : decode code 346 = .ok (.iaload, 1) := by decide +kernel
theorem dL_347 : decode code 347 = .ok (.invokevirtual 43, 3) := by decide +kernel
theorem dL_350 : decode code 350 = .ok (.if_icmp .eq 738, 3) := by decide +kernel
theorem dL_353 : decode code 353 = .ok (.iconst 0, 1) := by decide +kernel
theorem dL_354 : decode code 354 = .ok (.ireturn, 1) := by decide +kernel
theorem dL_355 : decode code 355 = .ok (.aload_n 1, 1) := by decide +kernel
theorem dL_356 : decode code 356 = .ok (.aload_n 0, 1) := by decide +kernel
theorem dL_357 : decode code 357 = .ok (.iload_n 3, 1) := by decide +kernel
theorem dL_358 : decode code 358 = .ok (.iconst 1, 1) := by decide +kernel
theorem dL_359 : decode code 359 = .ok (.iadd, 1) := by decide +kernel
theorem dL_360 : decode code 360 = .ok (.iaload, 1) := by decide +kernel
theorem dL_361 : decode code 361 = .ok (.invokevirtual 44, 3) := by decide +kernel
theorem dL_364 : decode code 364 = .ok (.aload_n 2, 1) := by decide +kernel
theorem dL_365 : decode code 365 = .ok (.aload_n 0, 1) := by decide +kernel
theorem dL_366 : decode code 366 = .ok (.iload_n 3, 1) := by decide +kernel
theorem dL_367 : decode code 367 = .ok (.iconst 1, 1) := by decide +kernel
theorem dL_368 : decode code 368 = .ok (.iadd, 1) := by decide +kernel
theorem dL_369 : decode code 369 = .ok (.iaload, 1) := by decide +kernel
theorem dL_370 : decode code 370 = .ok (.invokevirtual 47, 3) := by decide +kernel
theorem dL_373 : decode code 373 = .ok (.if_icmp .eq 715, 3) := by decide +kernel
theorem dL_376 : decode code 376 = .ok (.iconst 0, 1) := by decide +kernel
theorem dL_377 : decode code 377 = .ok (.ireturn, 1) := by decide +kernel
theorem dL_378 : decode code 378 = .ok (.aload_n 1, 1) := by decide +kernel
theorem dL_379 : decode code 379 = .ok (.aload_n 0, 1) := by decide +kernel
theorem dL_380 : decode code 380 = .ok (.iload_n 3, 1) := by decide +kernel
theorem dL_381 : decode code 381 = .ok (.iconst 1, 1) := by decide +kernel
theorem dL_382 : decode code 382 = .ok (.iadd, 1) := by decide +kernel
theorem dL_383 : decode code 383 = .ok (.iaload, 1) := by decide +kernel
theorem dL_384 : decode code 384 = .ok (.invokevirtual 48, 3) := by decide +kernel
theorem dL_387 : decode code 387 = .ok (.aload_n 2, 1) := by decide +kernel
theorem dL_388 : decode code 388 = .ok (.aload_n 0, 1) := by decide +kernel
theorem dL_389 : decode code 389 = .ok (.iload_n 3, 1) := by decide +kernel
theorem dL_390 : decode code 390 = .ok (.iconst 1, 1) := by decide +kernel
theorem dL_391 : decode code 391 = .ok (.iadd, 1) := by decide +kernel
theorem dL_392 : decode code 392 = .ok (.iaload, 1) := by decide +kernel
theorem dL_393 : decode code 393 = .ok (.invokevirtual 51, 3) := by decide +kernel
theorem dL_396 : decode code 396 = .ok (.if_icmp .eq 692, 3) := by decide +kernel
theorem dL_399 : decode code 399 = .ok (.iconst 0, 1) := by decide +kernel
theorem dL_400 : decode code 400 = .ok (.ireturn, 1) := by decide +kernel
theorem dL_401 : decode code 401 = .ok (.aload_n 1, 1) := by decide +kernel
theorem dL_402 : decode code 402 = .ok (.invokevirtual 52, 3) := by decide +kernel
theorem dL_405 : decode code 405 = .ok (.aload_n 2, 1) := by decide +kernel
theorem dL_406 : decode code 406 = .ok (.invokevirtual 55, 3) := by decide +kernel
theorem dL_409 : decode code 409 = .ok (.if_icmp .eq 679, 3) := by decide +kernel
theorem dL_412 : decode code 412 = .ok (.iconst 0, 1) := by decide +kernel
theorem dL_413 : decode code 413 = .ok (.ireturn, 1) := by decide +kernel
theorem dL_414 : decode code 414 = .ok (.aload_n 1, 1) := by decide +kernel
theorem dL_415 : decode code 415 = .ok (.aload_n 0, 1) := by decide +kernel
theorem dL_416 : decode code 416 = .ok (.iload_n 3, 1) := by decide +kernel
theorem dL_417 : decode code 417 = .ok (.iconst 1, 1) := by decide +kernel
theorem dL_418 : decode code 418 = .ok (.iadd, 1) := by decide +kernel
theorem dL_419 : decode code 419 = .ok (.iaload, 1) := by decide +kernel
theorem dL_420 : decode code 420 = .ok (.invokevirtual 56, 3) := by decide +kernel
theorem dL_423 : decode code 423 = .ok (.aload_n 2, 1) := by decide +kernel
theorem dL_424 : decode code 424 = .ok (.aload_n 0, 1) := by decide +kernel
theorem dL_425 : decode code 425 = .ok (.iload_n 3, 1) := by decide +kernel
theorem dL_426 : decode code 426 = .ok (.iconst 1, 1) := by decide +kernel
theorem dL_427 : decode code 427 = .ok (.iadd, 1) := by decide +kernel
theorem dL_428 : decode code 428 = .ok (.iaload, 1) := by decide +kernel
theorem dL_429 : decode code 429 = .ok (.invokevirtual 59, 3) := by decide +kernel
theorem dL_432 : decode code 432 = .ok (.if_icmp .eq 656, 3) := by decide +kernel
theorem dL_435 : decode code 435 = .ok (.iconst 0, 1) := by decide +kernel
theorem dL_436 : decode code 436 = .ok (.ireturn, 1) := by decide +kernel
theorem dL_437 : decode code 437 = .ok (.aload_n 1, 1) := by decide +kernel
theorem dL_438 : decode code 438 = .ok (.aload_n 0, 1) := by decide +kernel
theorem dL_439 : decode code 439 = .ok (.iload_n 3, 1) := by decide +kernel
theorem dL_440 : decode code 440 = .ok (.iconst 1, 1) := by decide +kernel
theorem dL_441 : decode code 441 = .ok (.iadd, 1) := by decide +kernel
theorem dL_442 : decode code 442 = .ok (.iaload, 1) := by decide +kernel
theorem dL_443 : decode code 443 = .ok (.aload_n 0, 1) := by decide +kernel
theorem dL_444 : decode code 444 = .ok (.iload_n 3, 1) := by decide +kernel
theorem dL_445 : decode code 445 = .ok (.iconst 2, 1) := by decide +kernel
theorem dL_446 : decode code 446 = .ok (.iadd, 1) := by decide +kernel
theorem dL_447 : decode code 447 = .ok (.iaload, 1) := by decide +kernel
theorem dL_448 : decode code 448 = .ok (.invokevirtual 60, 3) := by decide +kernel
theorem dL_451 : decode code 451 = .ok (.aload_n 2, 1) := by decide +kernel
theorem dL_452 : decode code 452 = .ok (.aload_n 0, 1) := by decide +kernel
theorem dL_453 : decode code 453 = .ok (.iload_n 3, 1) := by decide +kernel
theorem dL_454 : decode code 454 = .ok (.iconst 1, 1) := by decide +kernel
theorem dL_455 : decode code 455 = .ok (.iadd, 1) := by decide +kernel
theorem dL_456 : decode code 456 = .ok (.iaload, 1) := by decide +kernel
theorem dL_457 : decode code 457 = .ok (.aload_n 0, 1) := by decide +kernel
theorem dL_458 : decode code 458 = .ok (.iload_n 3, 1) := by decide +kernel
theorem dL_459 : decode code 459 = .ok (.iconst 2, 1) := by decide +kernel
theorem dL_460 : decode code 460 = .ok (.iadd, 1) := by decide +kernel
theorem dL_461 : decode code 461 = .ok (.iaload, 1) := by decide +kernel
theorem dL_462 : decode code 462 = .ok (.invokevirtual 63, 3) := by decide +kernel
theorem dL_465 : decode code 465 = .ok (.if_icmp .eq 623, 3) := by decide +kernel
theorem dL_468 : decode code 468 = .ok (.iconst 0, 1) := by decide +kernel
theorem dL_469 : decode code 469 = .ok (.ireturn, 1) := by decide +kernel
theorem dL_470 : decode code 470 = .ok (.aload_n 1, 1) := by decide +kernel
theorem dL_471 : decode code 471 = .ok (.aload_n 0, 1) := by decide +kernel
theorem dL_472 : decode code 472 = .ok (.iload_n 3, 1) := by decide +kernel
theorem dL_473 : decode code 473 = .ok (.iconst 1, 1) := by decide +kernel
theorem dL_474 : decode code 474 = .ok (.iadd, 1) := by decide +kernel
theorem dL_475 : decode code 475 = .ok (.iaload, 1) := by decide +kernel
theorem dL_476 : decode code 476 = .ok (.aload_n 0, 1) := by decide +kernel
theorem dL_477 : decode code 477 = .ok (.iload_n 3, 1) := by decide +kernel
theorem dL_478 : decode code 478 = .ok (.iconst 2, 1) := by decide +kernel
theorem dL_479 : decode code 479 = .ok (.iadd, 1) := by decide +kernel
theorem dL_480 : decode code 480 = .ok (.iaload, 1) := by decide +kernel
theorem dL_481 : decode code 481 = .ok (.invokevirtual 64, 3) := by decide +kernel
theorem dL_484 : decode code 484 = .ok (.aload_n 2, 1) := by decide +kernel
theorem dL_485 : decode code 485 = .ok (.aload_n 0, 1) := by decide +kernel
theorem dL_486 : decode code 486 = .ok (.iload_n 3, 1) := by decide +kernel
theorem dL_487 : decode code 487 = .ok (.iconst 1, 1) := by decide +kernel
theorem dL_488 : decode code 488 = .ok (.iadd, 1) := by decide +kernel
theorem dL_489 : decode code 489 = .ok (.iaload, 1) := by decide +kernel
theorem dL_490 : decode code 490 = .ok (.aload_n 0, 1) := by decide +kernel
theorem dL_491 : decode code 491 = .ok (.iload_n 3, 1) := by decide +kernel
theorem dL_492 : decode code 492 = .ok (.iconst 2, 1) := by decide +kernel
theorem dL_493 : decode code 493 = .ok (.iadd, 1) := by decide +kernel
theorem dL_494 : decode code 494 = .ok (.iaload, 1) := by decide +kernel
theorem dL_495 : decode code 495 = .ok (.invokevirtual 67, 3) := by decide +kernel
