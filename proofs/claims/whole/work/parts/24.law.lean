/-! ===== the law's loop as a function ===== -/
theorem dL_law_18 : decode cL_law 18 = .ok (.iload_n 3, 1) := by decide +kernel
theorem dL_law_19 : decode cL_law 19 = .ok (.aload_n 0, 1) := by decide +kernel
theorem dL_law_20 : decode cL_law 20 = .ok (.arraylength, 1) := by decide +kernel
theorem dL_law_21 : decode cL_law 21 = .ok (.bipush 6, 2) := by decide +kernel
theorem dL_law_23 : decode cL_law 23 = .ok (.isub, 1) := by decide +kernel
theorem dL_law_24 : decode cL_law 24 = .ok (.if_icmp .gt 1747, 3) := by decide +kernel
theorem dL_law_27 : decode cL_law 27 = .ok (.aload_n 0, 1) := by decide +kernel
theorem dL_law_28 : decode cL_law 28 = .ok (.iload_n 3, 1) := by decide +kernel
theorem dL_law_29 : decode cL_law 29 = .ok (.iaload, 1) := by decide +kernel
theorem dL_law_30 : decode cL_law 30 = .ok (.bipush 63, 2) := by decide +kernel
theorem dL_law_32 : decode cL_law 32 = .ok (.iand, 1) := by decide +kernel
theorem dL_law_33 : decode cL_law 33 = .ok (.tableswitch 1732 0 53 #[231, 244, 258, 272, 315, 388, 422, 485, 548, 571, 594, 617, 640, 663, 696, 729, 752, 775, 808, 841, 864, 887, 920, 963, 986, 1019, 1078, 1141, 1174, 1207, 1220, 1233, 1266, 1289, 1312, 1335, 1368, 1391, 1414, 1427, 1450, 1463, 1486, 1499, 1512, 1535, 1558, 1581, 1604, 1627, 1650, 1673, 1706, 1719], 231) := by decide +kernel
theorem dL_law_264 : decode cL_law 264 = .ok (.aload_n 1, 1) := by decide +kernel
theorem dL_law_265 : decode cL_law 265 = .ok (.invokevirtual 13, 3) := by decide +kernel
theorem dL_law_268 : decode cL_law 268 = .ok (.aload_n 2, 1) := by decide +kernel
theorem dL_law_269 : decode cL_law 269 = .ok (.invokevirtual 17, 3) := by decide +kernel
theorem dL_law_272 : decode cL_law 272 = .ok (.if_icmp .eq 1493, 3) := by decide +kernel
theorem dL_law_275 : decode cL_law 275 = .ok (.iconst 0, 1) := by decide +kernel
theorem dL_law_276 : decode cL_law 276 = .ok (.ireturn, 1) := by decide +kernel
theorem dL_law_277 : decode cL_law 277 = .ok (.aload_n 1, 1) := by decide +kernel
theorem dL_law_278 : decode cL_law 278 = .ok (.invokevirtual 18, 3) := by decide +kernel
theorem dL_law_281 : decode cL_law 281 = .ok (.aload_n 2, 1) := by decide +kernel
theorem dL_law_282 : decode cL_law 282 = .ok (.invokevirtual 22, 3) := by decide +kernel
theorem dL_law_285 : decode cL_law 285 = .ok (.lcmp, 1) := by decide +kernel
theorem dL_law_286 : decode cL_law 286 = .ok (.ifCond .eq 1479, 3) := by decide +kernel
theorem dL_law_289 : decode cL_law 289 = .ok (.iconst 0, 1) := by decide +kernel
theorem dL_law_290 : decode cL_law 290 = .ok (.ireturn, 1) := by decide +kernel
theorem dL_law_291 : decode cL_law 291 = .ok (.aload_n 1, 1) := by decide +kernel
theorem dL_law_292 : decode cL_law 292 = .ok (.invokevirtual 23, 3) := by decide +kernel
theorem dL_law_295 : decode cL_law 295 = .ok (.aload_n 2, 1) := by decide +kernel
theorem dL_law_296 : decode cL_law 296 = .ok (.invokevirtual 26, 3) := by decide +kernel
theorem dL_law_299 : decode cL_law 299 = .ok (.lcmp, 1) := by decide +kernel
theorem dL_law_300 : decode cL_law 300 = .ok (.ifCond .eq 1465, 3) := by decide +kernel
theorem dL_law_303 : decode cL_law 303 = .ok (.iconst 0, 1) := by decide +kernel
theorem dL_law_304 : decode cL_law 304 = .ok (.ireturn, 1) := by decide +kernel
theorem dL_law_305 : decode cL_law 305 = .ok (.aload_n 1, 1) := by decide +kernel
theorem dL_law_306 : decode cL_law 306 = .ok (.aload_n 0, 1) := by decide +kernel
theorem dL_law_307 : decode cL_law 307 = .ok (.iload_n 3, 1) := by decide +kernel
theorem dL_law_308 : decode cL_law 308 = .ok (.iconst 1, 1) := by decide +kernel
theorem dL_law_309 : decode cL_law 309 = .ok (.iadd, 1) := by decide +kernel
theorem dL_law_310 : decode cL_law 310 = .ok (.iaload, 1) := by decide +kernel
theorem dL_law_311 : decode cL_law 311 = .ok (.aload_n 0, 1) := by decide +kernel
theorem dL_law_312 : decode cL_law 312 = .ok (.iload_n 3, 1) := by decide +kernel
theorem dL_law_313 : decode cL_law 313 = .ok (.iconst 2, 1) := by decide +kernel
theorem dL_law_314 : decode cL_law 314 = .ok (.iadd, 1) := by decide +kernel
theorem dL_law_315 : decode cL_law 315 = .ok (.iaload, 1) := by decide +kernel
theorem dL_law_316 : decode cL_law 316 = .ok (.aload_n 0, 1) := by decide +kernel
theorem dL_law_317 : decode cL_law 317 = .ok (.iload_n 3, 1) := by decide +kernel
theorem dL_law_318 : decode cL_law 318 = .ok (.iconst 3, 1) := by decide +kernel
theorem dL_law_319 : decode cL_law 319 = .ok (.iadd, 1) := by decide +kernel
theorem dL_law_320 : decode cL_law 320 = .ok (.iaload, 1) := by decide +kernel
theorem dL_law_321 : decode cL_law 321 = .ok (.invokevirtual 27, 3) := by decide +kernel
theorem dL_law_324 : decode cL_law 324 = .ok (.aload_n 2, 1) := by decide +kernel
theorem dL_law_325 : decode cL_law 325 = .ok (.aload_n 0, 1) := by decide +kernel
theorem dL_law_326 : decode cL_law 326 = .ok (.iload_n 3, 1) := by decide +kernel
theorem dL_law_327 : decode cL_law 327 = .ok (.iconst 1, 1) := by decide +kernel
theorem dL_law_328 : decode cL_law 328 = .ok (.iadd, 1) := by decide +kernel
theorem dL_law_329 : decode cL_law 329 = .ok (.iaload, 1) := by decide +kernel
theorem dL_law_330 : decode cL_law 330 = .ok (.aload_n 0, 1) := by decide +kernel
theorem dL_law_331 : decode cL_law 331 = .ok (.iload_n 3, 1) := by decide +kernel
theorem dL_law_332 : decode cL_law 332 = .ok (.iconst 2, 1) := by decide +kernel
theorem dL_law_333 : decode cL_law 333 = .ok (.iadd, 1) := by decide +kernel
theorem dL_law_334 : decode cL_law 334 = .ok (.iaload, 1) := by decide +kernel
theorem dL_law_335 : decode cL_law 335 = .ok (.aload_n 0, 1) := by decide +kernel
theorem dL_law_336 : decode cL_law 336 = .ok (.iload_n 3, 1) := by decide +kernel
theorem dL_law_337 : decode cL_law 337 = .ok (.iconst 3, 1) := by decide +kernel
theorem dL_law_338 : decode cL_law 338 = .ok (.iadd, 1) := by decide +kernel
theorem dL_law_339 : decode cL_law 339 = .ok (.iaload, 1) := by decide +kernel
theorem dL_law_340 : decode cL_law 340 = .ok (.invokevirtual 31, 3) := by decide +kernel
theorem dL_law_343 : decode cL_law 343 = .ok (.if_icmp .eq 1422, 3) := by decide +kernel
theorem dL_law_346 : decode cL_law 346 = .ok (.iconst 0, 1) := by decide +kernel
theorem dL_law_347 : decode cL_law 347 = .ok (.ireturn, 1) := by decide +kernel
theorem dL_law_348 : decode cL_law 348 = .ok (.aload_n 1, 1) := by decide +kernel
theorem dL_law_349 : decode cL_law 349 = .ok (.aload_n 0, 1) := by decide +kernel
theorem dL_law_350 : decode cL_law 350 = .ok (.iload_n 3, 1) := by decide +kernel
theorem dL_law_351 : decode cL_law 351 = .ok (.iconst 1, 1) := by decide +kernel
theorem dL_law_352 : decode cL_law 352 = .ok (.iadd, 1) := by decide +kernel
theorem dL_law_353 : decode cL_law 353 = .ok (.iaload, 1) := by decide +kernel
theorem dL_law_354 : decode cL_law 354 = .ok (.aload_n 0, 1) := by decide +kernel
theorem dL_law_355 : decode cL_law 355 = .ok (.iload_n 3, 1) := by decide +kernel
theorem dL_law_356 : decode cL_law 356 = .ok (.iconst 2, 1) := by decide +kernel
theorem dL_law_357 : decode cL_law 357 = .ok (.iadd, 1) := by decide +kernel
theorem dL_law_358 : decode cL_law 358 = .ok (.iaload, 1) := by decide +kernel
theorem dL_law_359 : decode cL_law 359 = .ok (.aload_n 0, 1) := by decide +kernel
theorem dL_law_360 : decode cL_law 360 = .ok (.iload_n 3, 1) := by decide +kernel
theorem dL_law_361 : decode cL_law 361 = .ok (.iconst 3, 1) := by decide +kernel
theorem dL_law_362 : decode cL_law 362 = .ok (.iadd, 1) := by decide +kernel
theorem dL_law_363 : decode cL_law 363 = .ok (.iaload, 1) := by decide +kernel
theorem dL_law_364 : decode cL_law 364 = .ok (.i2l, 1) := by decide +kernel
theorem dL_law_365 : decode cL_law 365 = .ok (.bipush 32, 2) := by decide +kernel
theorem dL_law_367 : decode cL_law 367 = .ok (.lshl, 1) := by decide +kernel
theorem dL_law_368 : decode cL_law 368 = .ok (.aload_n 0, 1) := by decide +kernel
theorem dL_law_369 : decode cL_law 369 = .ok (.iload_n 3, 1) := by decide +kernel
theorem dL_law_370 : decode cL_law 370 = .ok (.iconst 4, 1) := by decide +kernel
theorem dL_law_371 : decode cL_law 371 = .ok (.iadd, 1) := by decide +kernel
theorem dL_law_372 : decode cL_law 372 = .ok (.iaload, 1) := by decide +kernel
theorem dL_law_373 : decode cL_law 373 = .ok (.i2l, 1) := by decide +kernel
theorem dL_law_374 : decode cL_law 374 = .ok (.ldc2_w 32, 3) := by decide +kernel
theorem dL_law_377 : decode cL_law 377 = .ok (.land, 1) := by decide +kernel
theorem dL_law_378 : decode cL_law 378 = .ok (.lor, 1) := by decide +kernel
theorem dL_law_379 : decode cL_law 379 = .ok (.invokevirtual 34, 3) := by decide +kernel
theorem dL_law_382 : decode cL_law 382 = .ok (.aload_n 2, 1) := by decide +kernel
theorem dL_law_383 : decode cL_law 383 = .ok (.aload_n 0, 1) := by decide +kernel
theorem dL_law_384 : decode cL_law 384 = .ok (.iload_n 3, 1) := by decide +kernel
theorem dL_law_385 : decode cL_law 385 = .ok (.iconst 1, 1) := by decide +kernel
theorem dL_law_386 : decode cL_law 386 = .ok (.iadd, 1) := by decide +kernel
theorem dL_law_387 : decode cL_law 387 = .ok (.iaload, 1) := by decide +kernel
theorem dL_law_388 : decode cL_law 388 = .ok (.aload_n 0, 1) := by decide +kernel
theorem dL_law_389 : decode cL_law 389 = .ok (.iload_n 3, 1) := by decide +kernel
theorem dL_law_390 : decode cL_law 390 = .ok (.iconst 2, 1) := by decide +kernel
theorem dL_law_391 : decode cL_law 391 = .ok (.iadd, 1) := by decide +kernel
theorem dL_law_392 : decode cL_law 392 = .ok (.iaload, 1) := by decide +kernel
theorem dL_law_393 : decode cL_law 393 = .ok (.aload_n 0, 1) := by decide +kernel
theorem dL_law_394 : decode cL_law 394 = .ok (.iload_n 3, 1) := by decide +kernel
theorem dL_law_395 : decode cL_law 395 = .ok (.iconst 3, 1) := by decide +kernel
theorem dL_law_396 : decode cL_law 396 = .ok (.iadd, 1) := by decide +kernel
theorem dL_law_397 : decode cL_law 397 = .ok (.iaload, 1) := by decide +kernel
theorem dL_law_398 : decode cL_law 398 = .ok (.i2l, 1) := by decide +kernel
theorem dL_law_399 : decode cL_law 399 = .ok (.bipush 32, 2) := by decide +kernel
theorem dL_law_401 : decode cL_law 401 = .ok (.lshl, 1) := by decide +kernel
theorem dL_law_402 : decode cL_law 402 = .ok (.aload_n 0, 1) := by decide +kernel
theorem dL_law_403 : decode cL_law 403 = .ok (.iload_n 3, 1) := by decide +kernel
theorem dL_law_404 : decode cL_law 404 = .ok (.iconst 4, 1) := by decide +kernel
theorem dL_law_405 : decode cL_law 405 = .ok (.iadd, 1) := by decide +kernel
theorem dL_law_406 : decode cL_law 406 = .ok (.iaload, 1) := by decide +kernel
theorem dL_law_407 : decode cL_law 407 = .ok (.i2l, 1) := by decide +kernel
theorem dL_law_408 : decode cL_law 408 = .ok (.ldc2_w 32, 3) := by decide +kernel
theorem dL_law_411 : decode cL_law 411 = .ok (.land, 1) := by decide +kernel
theorem dL_law_412 : decode cL_law 412 = .ok (.lor, 1) := by decide +kernel
theorem dL_law_413 : decode cL_law 413 = .ok (.invokevirtual 38, 3) := by decide +kernel
theorem dL_law_416 : decode cL_law 416 = .ok (.if_icmp .eq 1349, 3) := by decide +kernel
theorem dL_law_419 : decode cL_law 419 = .ok (.iconst 0, 1) := by decide +kernel
theorem dL_law_420 : decode cL_law 420 = .ok (.ireturn, 1) := by decide +kernel
theorem dL_law_421 : decode cL_law 421 = .ok (.aload_n 1, 1) := by decide +kernel
theorem dL_law_422 : decode cL_law 422 = .ok (.aload_n 0, 1) := by decide +kernel
theorem dL_law_423 : decode cL_law 423 = .ok (.iload_n 3, 1) := by decide +kernel
theorem dL_law_424 : decode cL_law 424 = .ok (.iconst 1, 1) := by decide +kernel
theorem dL_law_425 : decode cL_law 425 = .ok (.iadd, 1) := by decide +kernel
theorem dL_law_426 : decode cL_law 426 = .ok (.iaload, 1) := by decide +kernel
theorem dL_law_427 : decode cL_law 427 = .ok (.aload_n 0, 1) := by decide +kernel
theorem dL_law_428 : decode cL_law 428 = .ok (.iload_n 3, 1) := by decide +kernel
theorem dL_law_429 : decode cL_law 429 = .ok (.iconst 2, 1) := by decide +kernel
theorem dL_law_430 : decode cL_law 430 = .ok (.iadd, 1) := by decide +kernel
theorem dL_law_431 : decode cL_law 431 = .ok (.iaload, 1) := by decide +kernel
theorem dL_law_432 : decode cL_law 432 = .ok (.invokevirtual 39, 3) := by decide +kernel
theorem dL_law_435 : decode cL_law 435 = .ok (.aload_n 2, 1) := by decide +kernel
theorem dL_law_436 : decode cL_law 436 = .ok (.aload_n 0, 1) := by decide +kernel
theorem dL_law_437 : decode cL_law 437 = .ok (.iload_n 3, 1) := by decide +kernel
theorem dL_law_438 : decode cL_law 438 = .ok (.iconst 1, 1) := by decide +kernel
theorem dL_law_439 : decode cL_law 439 = .ok (.iadd, 1) := by decide +kernel
theorem dL_law_440 : decode cL_law 440 = .ok (.iaload, 1) := by decide +kernel
theorem dL_law_441 : decode cL_law 441 = .ok (.aload_n 0, 1) := by decide +kernel
theorem dL_law_442 : decode cL_law 442 = .ok (.iload_n 3, 1) := by decide +kernel
theorem dL_law_443 : decode cL_law 443 = .ok (.iconst 2, 1) := by decide +kernel
theorem dL_law_444 : decode cL_law 444 = .ok (.iadd, 1) := by decide +kernel
theorem dL_law_445 : decode cL_law 445 = .ok (.iaload, 1) := by decide +kernel
theorem dL_law_446 : decode cL_law 446 = .ok (.invokevirtual 43, 3) := by decide +kernel
theorem dL_law_449 : decode cL_law 449 = .ok (.lcmp, 1) := by decide +kernel
theorem dL_law_450 : decode cL_law 450 = .ok (.ifCond .eq 1315, 3) := by decide +kernel
theorem dL_law_453 : decode cL_law 453 = .ok (.iconst 0, 1) := by decide +kernel
theorem dL_law_454 : decode cL_law 454 = .ok (.ireturn, 1) := by decide +kernel
theorem dL_law_455 : decode cL_law 455 = .ok (.aload_n 1, 1) := by decide +kernel
theorem dL_law_456 : decode cL_law 456 = .ok (.aload_n 0, 1) := by decide +kernel
theorem dL_law_457 : decode cL_law 457 = .ok (.iload_n 3, 1) := by decide +kernel
theorem dL_law_458 : decode cL_law 458 = .ok (.iconst 1, 1) := by decide +kernel
theorem dL_law_459 : decode cL_law 459 = .ok (.iadd, 1) := by decide +kernel
theorem dL_law_460 : decode cL_law 460 = .ok (.iaload, 1) := by decide +kernel
theorem dL_law_461 : decode cL_law 461 = .ok (.aload_n 0, 1) := by decide +kernel
theorem dL_law_462 : decode cL_law 462 = .ok (.iload_n 3, 1) := by decide +kernel
theorem dL_law_463 : decode cL_law 463 = .ok (.iconst 2, 1) := by decide +kernel
theorem dL_law_464 : decode cL_law 464 = .ok (.iadd, 1) := by decide +kernel
theorem dL_law_465 : decode cL_law 465 = .ok (.iaload, 1) := by decide +kernel
theorem dL_law_466 : decode cL_law 466 = .ok (.aload_n 0, 1) := by decide +kernel
theorem dL_law_467 : decode cL_law 467 = .ok (.iload_n 3, 1) := by decide +kernel
theorem dL_law_468 : decode cL_law 468 = .ok (.iconst 3, 1) := by decide +kernel
theorem dL_law_469 : decode cL_law 469 = .ok (.iadd, 1) := by decide +kernel
theorem dL_law_470 : decode cL_law 470 = .ok (.iaload, 1) := by decide +kernel
theorem dL_law_471 : decode cL_law 471 = .ok (.aload_n 0, 1) := by decide +kernel
theorem dL_law_472 : decode cL_law 472 = .ok (.iload_n 3, 1) := by decide +kernel
theorem dL_law_473 : decode cL_law 473 = .ok (.iconst 4, 1) := by decide +kernel
theorem dL_law_474 : decode cL_law 474 = .ok (.iadd, 1) := by decide +kernel
theorem dL_law_475 : decode cL_law 475 = .ok (.iaload, 1) := by decide +kernel
theorem dL_law_476 : decode cL_law 476 = .ok (.aload_n 0, 1) := by decide +kernel
theorem dL_law_477 : decode cL_law 477 = .ok (.iload_n 3, 1) := by decide +kernel
theorem dL_law_478 : decode cL_law 478 = .ok (.iconst 5, 1) := by decide +kernel
theorem dL_law_479 : decode cL_law 479 = .ok (.iadd, 1) := by decide +kernel
theorem dL_law_480 : decode cL_law 480 = .ok (.iaload, 1) := by decide +kernel
theorem dL_law_481 : decode cL_law 481 = .ok (.invokevirtual 44, 3) := by decide +kernel
theorem dL_law_484 : decode cL_law 484 = .ok (.aload_n 2, 1) := by decide +kernel
theorem dL_law_485 : decode cL_law 485 = .ok (.aload_n 0, 1) := by decide +kernel
theorem dL_law_486 : decode cL_law 486 = .ok (.iload_n 3, 1) := by decide +kernel
theorem dL_law_487 : decode cL_law 487 = .ok (.iconst 1, 1) := by decide +kernel
theorem dL_law_488 : decode cL_law 488 = .ok (.iadd, 1) := by decide +kernel
theorem dL_law_489 : decode cL_law 489 = .ok (.iaload, 1) := by decide +kernel
theorem dL_law_490 : decode cL_law 490 = .ok (.aload_n 0, 1) := by decide +kernel
theorem dL_law_491 : decode cL_law 491 = .ok (.iload_n 3, 1) := by decide +kernel
theorem dL_law_492 : decode cL_law 492 = .ok (.iconst 2, 1) := by decide +kernel
theorem dL_law_493 : decode cL_law 493 = .ok (.iadd, 1) := by decide +kernel
theorem dL_law_494 : decode cL_law 494 = .ok (.iaload, 1) := by decide +kernel
theorem dL_law_495 : decode cL_law 495 = .ok (.aload_n 0, 1) := by decide +kernel
theorem dL_law_496 : decode cL_law 496 = .ok (.iload_n 3, 1) := by decide +kernel
theorem dL_law_497 : decode cL_law 497 = .ok (.iconst 3, 1) := by decide +kernel
theorem dL_law_498 : decode cL_law 498 = .ok (.iadd, 1) := by decide +kernel
theorem dL_law_499 : decode cL_law 499 = .ok (.iaload, 1) := by decide +kernel
theorem dL_law_500 : decode cL_law 500 = .ok (.aload_n 0, 1) := by decide +kernel
theorem dL_law_501 : decode cL_law 501 = .ok (.iload_n 3, 1) := by decide +kernel
theorem dL_law_502 : decode cL_law 502 = .ok (.iconst 4, 1) := by decide +kernel
theorem dL_law_503 : decode cL_law 503 = .ok (.iadd, 1) := by decide +kernel
theorem dL_law_504 : decode cL_law 504 = .ok (.iaload, 1) := by decide +kernel
theorem dL_law_505 : decode cL_law 505 = .ok (.aload_n 0, 1) := by decide +kernel
theorem dL_law_506 : decode cL_law 506 = .ok (.iload_n 3, 1) := by decide +kernel
theorem dL_law_507 : decode cL_law 507 = .ok (.iconst 5, 1) := by decide +kernel
theorem dL_law_508 : decode cL_law 508 = .ok (.iadd, 1) := by decide +kernel
theorem dL_law_509 : decode cL_law 509 = .ok (.iaload, 1) := by decide +kernel
theorem dL_law_510 : decode cL_law 510 = .ok (.invokevirtual 48, 3) := by decide +kernel
theorem dL_law_513 : decode cL_law 513 = .ok (.if_icmp .eq 1252, 3) := by decide +kernel
theorem dL_law_516 : decode cL_law 516 = .ok (.iconst 0, 1) := by decide +kernel
theorem dL_law_517 : decode cL_law 517 = .ok (.ireturn, 1) := by decide +kernel
theorem dL_law_518 : decode cL_law 518 = .ok (.aload_n 1, 1) := by decide +kernel
theorem dL_law_519 : decode cL_law 519 = .ok (.aload_n 0, 1) := by decide +kernel
theorem dL_law_520 : decode cL_law 520 = .ok (.iload_n 3, 1) := by decide +kernel
theorem dL_law_521 : decode cL_law 521 = .ok (.iconst 1, 1) := by decide +kernel
theorem dL_law_522 : decode cL_law 522 = .ok (.iadd, 1) := by decide +kernel
theorem dL_law_523 : decode cL_law 523 = .ok (.iaload, 1) := by decide +kernel
theorem dL_law_524 : decode cL_law 524 = .ok (.aload_n 0, 1) := by decide +kernel
theorem dL_law_525 : decode cL_law 525 = .ok (.iload_n 3, 1) := by decide +kernel
theorem dL_law_526 : decode cL_law 526 = .ok (.iconst 2, 1) := by decide +kernel
theorem dL_law_527 : decode cL_law 527 = .ok (.iadd, 1) := by decide +kernel
theorem dL_law_528 : decode cL_law 528 = .ok (.iaload, 1) := by decide +kernel
theorem dL_law_529 : decode cL_law 529 = .ok (.aload_n 0, 1) := by decide +kernel
theorem dL_law_530 : decode cL_law 530 = .ok (.iload_n 3, 1) := by decide +kernel
theorem dL_law_531 : decode cL_law 531 = .ok (.iconst 3, 1) := by decide +kernel
theorem dL_law_532 : decode cL_law 532 = .ok (.iadd, 1) := by decide +kernel
theorem dL_law_533 : decode cL_law 533 = .ok (.iaload, 1) := by decide +kernel
theorem dL_law_534 : decode cL_law 534 = .ok (.aload_n 0, 1) := by decide +kernel
theorem dL_law_535 : decode cL_law 535 = .ok (.iload_n 3, 1) := by decide +kernel
theorem dL_law_536 : decode cL_law 536 = .ok (.iconst 4, 1) := by decide +kernel
theorem dL_law_537 : decode cL_law 537 = .ok (.iadd, 1) := by decide +kernel
theorem dL_law_538 : decode cL_law 538 = .ok (.iaload, 1) := by decide +kernel
theorem dL_law_539 : decode cL_law 539 = .ok (.aload_n 0, 1) := by decide +kernel
theorem dL_law_540 : decode cL_law 540 = .ok (.iload_n 3, 1) := by decide +kernel
theorem dL_law_541 : decode cL_law 541 = .ok (.iconst 5, 1) := by decide +kernel
theorem dL_law_542 : decode cL_law 542 = .ok (.iadd, 1) := by decide +kernel
theorem dL_law_543 : decode cL_law 543 = .ok (.iaload, 1) := by decide +kernel
theorem dL_law_544 : decode cL_law 544 = .ok (.invokevirtual 49, 3) := by decide +kernel
theorem dL_law_547 : decode cL_law 547 = .ok (.aload_n 2, 1) := by decide +kernel
theorem dL_law_548 : decode cL_law 548 = .ok (.aload_n 0, 1) := by decide +kernel
theorem dL_law_549 : decode cL_law 549 = .ok (.iload_n 3, 1) := by decide +kernel
theorem dL_law_550 : decode cL_law 550 = .ok (.iconst 1, 1) := by decide +kernel
theorem dL_law_551 : decode cL_law 551 = .ok (.iadd, 1) := by decide +kernel
theorem dL_law_552 : decode cL_law 552 = .ok (.iaload, 1) := by decide +kernel
theorem dL_law_553 : decode cL_law 553 = .ok (.aload_n 0, 1) := by decide +kernel
theorem dL_law_554 : decode cL_law 554 = .ok (.iload_n 3, 1) := by decide +kernel
theorem dL_law_555 : decode cL_law 555 = .ok (.iconst 2, 1) := by decide +kernel
theorem dL_law_556 : decode cL_law 556 = .ok (.iadd, 1) := by decide +kernel
theorem dL_law_557 : decode cL_law 557 = .ok (.iaload, 1) := by decide +kernel
theorem dL_law_558 : decode cL_law 558 = .ok (.aload_n 0, 1) := by decide +kernel
theorem dL_law_559 : decode cL_law 559 = .ok (.iload_n 3, 1) := by decide +kernel
theorem dL_law_560 : decode cL_law 560 = .ok (.iconst 3, 1) := by decide +kernel
theorem dL_law_561 : decode cL_law 561 = .ok (.iadd, 1) := by decide +kernel
theorem dL_law_562 : decode cL_law 562 = .ok (.iaload, 1) := by decide +kernel
theorem dL_law_563 : decode cL_law 563 = .ok (.aload_n 0, 1) := by decide +kernel
theorem dL_law_564 : decode cL_law 564 = .ok (.iload_n 3, 1) := by decide +kernel
theorem dL_law_565 : decode cL_law 565 = .ok (.iconst 4, 1) := by decide +kernel
theorem dL_law_566 : decode cL_law 566 = .ok (.iadd, 1) := by decide +kernel
theorem dL_law_567 : decode cL_law 567 = .ok (.iaload, 1) := by decide +kernel
theorem dL_law_568 : decode cL_law 568 = .ok (.aload_n 0, 1) := by decide +kernel
theorem dL_law_569 : decode cL_law 569 = .ok (.iload_n 3, 1) := by decide +kernel
theorem dL_law_570 : decode cL_law 570 = .ok (.iconst 5, 1) := by decide +kernel
theorem dL_law_571 : decode cL_law 571 = .ok (.iadd, 1) := by decide +kernel
theorem dL_law_572 : decode cL_law 572 = .ok (.iaload, 1) := by decide +kernel
theorem dL_law_573 : decode cL_law 573 = .ok (.invokevirtual 53, 3) := by decide +kernel
theorem dL_law_576 : decode cL_law 576 = .ok (.if_icmp .eq 1189, 3) := by decide +kernel
theorem dL_law_579 : decode cL_law 579 = .ok (.iconst 0, 1) := by decide +kernel
theorem dL_law_580 : decode cL_law 580 = .ok (.ireturn, 1) := by decide +kernel
theorem dL_law_581 : decode cL_law 581 = .ok (.aload_n 1, 1) := by decide +kernel
theorem dL_law_582 : decode cL_law 582 = .ok (.aload_n 0, 1) := by decide +kernel
theorem dL_law_583 : decode cL_law 583 = .ok (.iload_n 3, 1) := by decide +kernel
theorem dL_law_584 : decode cL_law 584 = .ok (.iconst 1, 1) := by decide +kernel
theorem dL_law_585 : decode cL_law 585 = .ok (.iadd, 1) := by decide +kernel
theorem dL_law_586 : decode cL_law 586 = .ok (.iaload, 1) := by decide +kernel
theorem dL_law_587 : decode cL_law 587 = .ok (.invokevirtual 54, 3) := by decide +kernel
theorem dL_law_590 : decode cL_law 590 = .ok (.aload_n 2, 1) := by decide +kernel
theorem dL_law_591 : decode cL_law 591 = .ok (.aload_n 0, 1) := by decide +kernel
theorem dL_law_592 : decode cL_law 592 = .ok (.iload_n 3, 1) := by decide +kernel
theorem dL_law_593 : decode cL_law 593 = .ok (.iconst 1, 1) := by decide +kernel
theorem dL_law_594 : decode cL_law 594 = .ok (.iadd, 1) := by decide +kernel
theorem dL_law_595 : decode cL_law 595 = .ok (.iaload, 1) := by decide +kernel
theorem dL_law_596 : decode cL_law 596 = .ok (.invokevirtual 58, 3) := by decide +kernel
theorem dL_law_599 : decode cL_law 599 = .ok (.if_icmp .eq 1166, 3) := by decide +kernel
theorem dL_law_602 : decode cL_law 602 = .ok (.iconst 0, 1) := by decide +kernel
theorem dL_law_603 : decode cL_law 603 = .ok (.ireturn, 1) := by decide +kernel
theorem dL_law_604 : decode cL_law 604 = .ok (.aload_n 1, 1) := by decide +kernel
theorem dL_law_605 : decode cL_law 605 = .ok (.aload_n 0, 1) := by decide +kernel
theorem dL_law_606 : decode cL_law 606 = .ok (.iload_n 3, 1) := by decide +kernel
theorem dL_law_607 : decode cL_law 607 = .ok (.iconst 1, 1) := by decide +kernel
theorem dL_law_608 : decode cL_law 608 = .ok (.iadd, 1) := by decide +kernel
theorem dL_law_609 : decode cL_law 609 = .ok (.iaload, 1) := by decide +kernel
theorem dL_law_610 : decode cL_law 610 = .ok (.invokevirtual 59, 3) := by decide +kernel
theorem dL_law_613 : decode cL_law 613 = .ok (.aload_n 2, 1) := by decide +kernel
theorem dL_law_614 : decode cL_law 614 = .ok (.aload_n 0, 1) := by decide +kernel
theorem dL_law_615 : decode cL_law 615 = .ok (.iload_n 3, 1) := by decide +kernel
theorem dL_law_616 : decode cL_law 616 = .ok (.iconst 1, 1) := by decide +kernel
theorem dL_law_617 : decode cL_law 617 = .ok (.iadd, 1) := by decide +kernel
theorem dL_law_618 : decode cL_law 618 = .ok (.iaload, 1) := by decide +kernel
theorem dL_law_619 : decode cL_law 619 = .ok (.invokevirtual 62, 3) := by decide +kernel
theorem dL_law_622 : decode cL_law 622 = .ok (.if_icmp .eq 1143, 3) := by decide +kernel
theorem dL_law_625 : decode cL_law 625 = .ok (.iconst 0, 1) := by decide +kernel
theorem dL_law_626 : decode cL_law 626 = .ok (.ireturn, 1) := by decide +kernel
theorem dL_law_627 : decode cL_law 627 = .ok (.aload_n 1, 1) := by decide +kernel
theorem dL_law_628 : decode cL_law 628 = .ok (.aload_n 0, 1) := by decide +kernel
theorem dL_law_629 : decode cL_law 629 = .ok (.iload_n 3, 1) := by decide +kernel
theorem dL_law_630 : decode cL_law 630 = .ok (.iconst 1, 1) := by decide +kernel
theorem dL_law_631 : decode cL_law 631 = .ok (.iadd, 1) := by decide +kernel
theorem dL_law_632 : decode cL_law 632 = .ok (.iaload, 1) := by decide +kernel
theorem dL_law_633 : decode cL_law 633 = .ok (.invokevirtual 63, 3) := by decide +kernel
theorem dL_law_636 : decode cL_law 636 = .ok (.aload_n 2, 1) := by decide +kernel
theorem dL_law_637 : decode cL_law 637 = .ok (.aload_n 0, 1) := by decide +kernel
theorem dL_law_638 : decode cL_law 638 = .ok (.iload_n 3, 1) := by decide +kernel
theorem dL_law_639 : decode cL_law 639 = .ok (.iconst 1, 1) := by decide +kernel
theorem dL_law_640 : decode cL_law 640 = .ok (.iadd, 1) := by decide +kernel
theorem dL_law_641 : decode cL_law 641 = .ok (.iaload, 1) := by decide +kernel
theorem dL_law_642 : decode cL_law 642 = .ok (.invokevirtual 66, 3) := by decide +kernel
theorem dL_law_645 : decode cL_law 645 = .ok (.if_icmp .eq 1120, 3) := by decide +kernel
theorem dL_law_648 : decode cL_law 648 = .ok (.iconst 0, 1) := by decide +kernel
theorem dL_law_649 : decode cL_law 649 = .ok (.ireturn, 1) := by decide +kernel
theorem dL_law_650 : decode cL_law 650 = .ok (.aload_n 1, 1) := by decide +kernel
theorem dL_law_651 : decode cL_law 651 = .ok (.aload_n 0, 1) := by decide +kernel
theorem dL_law_652 : decode cL_law 652 = .ok (.iload_n 3, 1) := by decide +kernel
theorem dL_law_653 : decode cL_law 653 = .ok (.iconst 1, 1) := by decide +kernel
theorem dL_law_654 : decode cL_law 654 = .ok (.iadd, 1) := by decide +kernel
theorem dL_law_655 : decode cL_law 655 = .ok (.iaload, 1) := by decide +kernel
theorem dL_law_656 : decode cL_law 656 = .ok (.invokevirtual 67, 3) := by decide +kernel
theorem dL_law_659 : decode cL_law 659 = .ok (.aload_n 2, 1) := by decide +kernel
theorem dL_law_660 : decode cL_law 660 = .ok (.aload_n 0, 1) := by decide +kernel
theorem dL_law_661 : decode cL_law 661 = .ok (.iload_n 3, 1) := by decide +kernel
theorem dL_law_662 : decode cL_law 662 = .ok (.iconst 1, 1) := by decide +kernel
theorem dL_law_663 : decode cL_law 663 = .ok (.iadd, 1) := by decide +kernel
theorem dL_law_664 : decode cL_law 664 = .ok (.iaload, 1) := by decide +kernel
theorem dL_law_665 : decode cL_law 665 = .ok (.invokevirtual 70, 3) := by decide +kernel
theorem dL_law_668 : decode cL_law 668 = .ok (.if_icmp .eq 1097, 3) := by decide +kernel
theorem dL_law_671 : decode cL_law 671 = .ok (.iconst 0, 1) := by decide +kernel
theorem dL_law_672 : decode cL_law 672 = .ok (.ireturn, 1) := by decide +kernel
theorem dL_law_673 : decode cL_law 673 = .ok (.aload_n 1, 1) := by decide +kernel
theorem dL_law_674 : decode cL_law 674 = .ok (.aload_n 0, 1) := by decide +kernel
theorem dL_law_675 : decode cL_law 675 = .ok (.iload_n 3, 1) := by decide +kernel
theorem dL_law_676 : decode cL_law 676 = .ok (.iconst 1, 1) := by decide +kernel
theorem dL_law_677 : decode cL_law 677 = .ok (.iadd, 1) := by decide +kernel
theorem dL_law_678 : decode cL_law 678 = .ok (.iaload, 1) := by decide +kernel
theorem dL_law_679 : decode cL_law 679 = .ok (.invokevirtual 71, 3) := by decide +kernel
theorem dL_law_682 : decode cL_law 682 = .ok (.aload_n 2, 1) := by decide +kernel
theorem dL_law_683 : decode cL_law 683 = .ok (.aload_n 0, 1) := by decide +kernel
theorem dL_law_684 : decode cL_law 684 = .ok (.iload_n 3, 1) := by decide +kernel
theorem dL_law_685 : decode cL_law 685 = .ok (.iconst 1, 1) := by decide +kernel
theorem dL_law_686 : decode cL_law 686 = .ok (.iadd, 1) := by decide +kernel
theorem dL_law_687 : decode cL_law 687 = .ok (.iaload, 1) := by decide +kernel
theorem dL_law_688 : decode cL_law 688 = .ok (.invokevirtual 74, 3) := by decide +kernel
theorem dL_law_691 : decode cL_law 691 = .ok (.if_icmp .eq 1074, 3) := by decide +kernel
theorem dL_law_694 : decode cL_law 694 = .ok (.iconst 0, 1) := by decide +kernel
theorem dL_law_695 : decode cL_law 695 = .ok (.ireturn, 1) := by decide +kernel
theorem dL_law_696 : decode cL_law 696 = .ok (.aload_n 1, 1) := by decide +kernel
theorem dL_law_697 : decode cL_law 697 = .ok (.aload_n 0, 1) := by decide +kernel
theorem dL_law_698 : decode cL_law 698 = .ok (.iload_n 3, 1) := by decide +kernel
theorem dL_law_699 : decode cL_law 699 = .ok (.iconst 1, 1) := by decide +kernel
theorem dL_law_700 : decode cL_law 700 = .ok (.iadd, 1) := by decide +kernel
theorem dL_law_701 : decode cL_law 701 = .ok (.iaload, 1) := by decide +kernel
theorem dL_law_702 : decode cL_law 702 = .ok (.aload_n 0, 1) := by decide +kernel
theorem dL_law_703 : decode cL_law 703 = .ok (.iload_n 3, 1) := by decide +kernel
theorem dL_law_704 : decode cL_law 704 = .ok (.iconst 2, 1) := by decide +kernel
theorem dL_law_705 : decode cL_law 705 = .ok (.iadd, 1) := by decide +kernel
theorem dL_law_706 : decode cL_law 706 = .ok (.iaload, 1) := by decide +kernel
theorem dL_law_707 : decode cL_law 707 = .ok (.invokevirtual 75, 3) := by decide +kernel
theorem dL_law_710 : decode cL_law 710 = .ok (.aload_n 2, 1) := by decide +kernel
theorem dL_law_711 : decode cL_law 711 = .ok (.aload_n 0, 1) := by decide +kernel
theorem dL_law_712 : decode cL_law 712 = .ok (.iload_n 3, 1) := by decide +kernel
theorem dL_law_713 : decode cL_law 713 = .ok (.iconst 1, 1) := by decide +kernel
theorem dL_law_714 : decode cL_law 714 = .ok (.iadd, 1) := by decide +kernel
theorem dL_law_715 : decode cL_law 715 = .ok (.iaload, 1) := by decide +kernel
theorem dL_law_716 : decode cL_law 716 = .ok (.aload_n 0, 1) := by decide +kernel
theorem dL_law_717 : decode cL_law 717 = .ok (.iload_n 3, 1) := by decide +kernel
theorem dL_law_718 : decode cL_law 718 = .ok (.iconst 2, 1) := by decide +kernel
theorem dL_law_719 : decode cL_law 719 = .ok (.iadd, 1) := by decide +kernel
theorem dL_law_720 : decode cL_law 720 = .ok (.iaload, 1) := by decide +kernel
theorem dL_law_721 : decode cL_law 721 = .ok (.invokevirtual 79, 3) := by decide +kernel
theorem dL_law_724 : decode cL_law 724 = .ok (.if_icmp .eq 1041, 3) := by decide +kernel
theorem dL_law_727 : decode cL_law 727 = .ok (.iconst 0, 1) := by decide +kernel
theorem dL_law_728 : decode cL_law 728 = .ok (.ireturn, 1) := by decide +kernel
theorem dL_law_729 : decode cL_law 729 = .ok (.aload_n 1, 1) := by decide +kernel
theorem dL_law_730 : decode cL_law 730 = .ok (.aload_n 0, 1) := by decide +kernel
theorem dL_law_731 : decode cL_law 731 = .ok (.iload_n 3, 1) := by decide +kernel
theorem dL_law_732 : decode cL_law 732 = .ok (.iconst 1, 1) := by decide +kernel
theorem dL_law_733 : decode cL_law 733 = .ok (.iadd, 1) := by decide +kernel
theorem dL_law_734 : decode cL_law 734 = .ok (.iaload, 1) := by decide +kernel
theorem dL_law_735 : decode cL_law 735 = .ok (.aload_n 0, 1) := by decide +kernel
theorem dL_law_736 : decode cL_law 736 = .ok (.iload_n 3, 1) := by decide +kernel
theorem dL_law_737 : decode cL_law 737 = .ok (.iconst 2, 1) := by decide +kernel
theorem dL_law_738 : decode cL_law 738 = .ok (.iadd, 1) := by decide +kernel
theorem dL_law_739 : decode cL_law 739 = .ok (.iaload, 1) := by decide +kernel
theorem dL_law_740 : decode cL_law 740 = .ok (.invokevirtual 80, 3) := by decide +kernel
theorem dL_law_743 : decode cL_law 743 = .ok (.aload_n 2, 1) := by decide +kernel
theorem dL_law_744 : decode cL_law 744 = .ok (.aload_n 0, 1) := by decide +kernel
theorem dL_law_745 : decode cL_law 745 = .ok (.iload_n 3, 1) := by decide +kernel
theorem dL_law_746 : decode cL_law 746 = .ok (.iconst 1, 1) := by decide +kernel
theorem dL_law_747 : decode cL_law 747 = .ok (.iadd, 1) := by decide +kernel
theorem dL_law_748 : decode cL_law 748 = .ok (.iaload, 1) := by decide +kernel
theorem dL_law_749 : decode cL_law 749 = .ok (.aload_n 0, 1) := by decide +kernel
theorem dL_law_750 : decode cL_law 750 = .ok (.iload_n 3, 1) := by decide +kernel
theorem dL_law_751 : decode cL_law 751 = .ok (.iconst 2, 1) := by decide +kernel
theorem dL_law_752 : decode cL_law 752 = .ok (.iadd, 1) := by decide +kernel
theorem dL_law_753 : decode cL_law 753 = .ok (.iaload, 1) := by decide +kernel
theorem dL_law_754 : decode cL_law 754 = .ok (.invokevirtual 83, 3) := by decide +kernel
theorem dL_law_757 : decode cL_law 757 = .ok (.if_icmp .eq 1008, 3) := by decide +kernel
theorem dL_law_760 : decode cL_law 760 = .ok (.iconst 0, 1) := by decide +kernel
theorem dL_law_761 : decode cL_law 761 = .ok (.ireturn, 1) := by decide +kernel
theorem dL_law_762 : decode cL_law 762 = .ok (.aload_n 1, 1) := by decide +kernel
theorem dL_law_763 : decode cL_law 763 = .ok (.aload_n 0, 1) := by decide +kernel
theorem dL_law_764 : decode cL_law 764 = .ok (.iload_n 3, 1) := by decide +kernel
theorem dL_law_765 : decode cL_law 765 = .ok (.iconst 1, 1) := by decide +kernel
theorem dL_law_766 : decode cL_law 766 = .ok (.iadd, 1) := by decide +kernel
theorem dL_law_767 : decode cL_law 767 = .ok (.iaload, 1) := by decide +kernel
theorem dL_law_768 : decode cL_law 768 = .ok (.invokevirtual 84, 3) := by decide +kernel
theorem dL_law_771 : decode cL_law 771 = .ok (.aload_n 2, 1) := by decide +kernel
theorem dL_law_772 : decode cL_law 772 = .ok (.aload_n 0, 1) := by decide +kernel
theorem dL_law_773 : decode cL_law 773 = .ok (.iload_n 3, 1) := by decide +kernel
theorem dL_law_774 : decode cL_law 774 = .ok (.iconst 1, 1) := by decide +kernel
theorem dL_law_775 : decode cL_law 775 = .ok (.iadd, 1) := by decide +kernel
theorem dL_law_776 : decode cL_law 776 = .ok (.iaload, 1) := by decide +kernel
theorem dL_law_777 : decode cL_law 777 = .ok (.invokevirtual 87, 3) := by decide +kernel
theorem dL_law_780 : decode cL_law 780 = .ok (.if_icmp .eq 985, 3) := by decide +kernel
theorem dL_law_783 : decode cL_law 783 = .ok (.iconst 0, 1) := by decide +kernel
theorem dL_law_784 : decode cL_law 784 = .ok (.ireturn, 1) := by decide +kernel
theorem dL_law_785 : decode cL_law 785 = .ok (.aload_n 1, 1) := by decide +kernel
theorem dL_law_786 : decode cL_law 786 = .ok (.aload_n 0, 1) := by decide +kernel
theorem dL_law_787 : decode cL_law 787 = .ok (.iload_n 3, 1) := by decide +kernel
theorem dL_law_788 : decode cL_law 788 = .ok (.iconst 1, 1) := by decide +kernel
theorem dL_law_789 : decode cL_law 789 = .ok (.iadd, 1) := by decide +kernel
theorem dL_law_790 : decode cL_law 790 = .ok (.iaload, 1) := by decide +kernel
theorem dL_law_791 : decode cL_law 791 = .ok (.invokevirtual 88, 3) := by decide +kernel
theorem dL_law_794 : decode cL_law 794 = .ok (.aload_n 2, 1) := by decide +kernel
theorem dL_law_795 : decode cL_law 795 = .ok (.aload_n 0, 1) := by decide +kernel
theorem dL_law_796 : decode cL_law 796 = .ok (.iload_n 3, 1) := by decide +kernel
theorem dL_law_797 : decode cL_law 797 = .ok (.iconst 1, 1) := by decide +kernel
theorem dL_law_798 : decode cL_law 798 = .ok (.iadd, 1) := by decide +kernel
theorem dL_law_799 : decode cL_law 799 = .ok (.iaload, 1) := by decide +kernel
theorem dL_law_800 : decode cL_law 800 = .ok (.invokevirtual 91, 3) := by decide +kernel
theorem dL_law_803 : decode cL_law 803 = .ok (.if_icmp .eq 962, 3) := by decide +kernel
theorem dL_law_806 : decode cL_law 806 = .ok (.iconst 0, 1) := by decide +kernel
theorem dL_law_807 : decode cL_law 807 = .ok (.ireturn, 1) := by decide +kernel
theorem dL_law_808 : decode cL_law 808 = .ok (.aload_n 1, 1) := by decide +kernel
theorem dL_law_809 : decode cL_law 809 = .ok (.aload_n 0, 1) := by decide +kernel
theorem dL_law_810 : decode cL_law 810 = .ok (.iload_n 3, 1) := by decide +kernel
theorem dL_law_811 : decode cL_law 811 = .ok (.iconst 1, 1) := by decide +kernel
theorem dL_law_812 : decode cL_law 812 = .ok (.iadd, 1) := by decide +kernel
theorem dL_law_813 : decode cL_law 813 = .ok (.iaload, 1) := by decide +kernel
theorem dL_law_814 : decode cL_law 814 = .ok (.aload_n 0, 1) := by decide +kernel
theorem dL_law_815 : decode cL_law 815 = .ok (.iload_n 3, 1) := by decide +kernel
theorem dL_law_816 : decode cL_law 816 = .ok (.iconst 2, 1) := by decide +kernel
theorem dL_law_817 : decode cL_law 817 = .ok (.iadd, 1) := by decide +kernel
theorem dL_law_818 : decode cL_law 818 = .ok (.iaload, 1) := by decide +kernel
theorem dL_law_819 : decode cL_law 819 = .ok (.invokevirtual 92, 3) := by decide +kernel
theorem dL_law_822 : decode cL_law 822 = .ok (.aload_n 2, 1) := by decide +kernel
theorem dL_law_823 : decode cL_law 823 = .ok (.aload_n 0, 1) := by decide +kernel
theorem dL_law_824 : decode cL_law 824 = .ok (.iload_n 3, 1) := by decide +kernel
theorem dL_law_825 : decode cL_law 825 = .ok (.iconst 1, 1) := by decide +kernel
theorem dL_law_826 : decode cL_law 826 = .ok (.iadd, 1) := by decide +kernel
theorem dL_law_827 : decode cL_law 827 = .ok (.iaload, 1) := by decide +kernel
theorem dL_law_828 : decode cL_law 828 = .ok (.aload_n 0, 1) := by decide +kernel
theorem dL_law_829 : decode cL_law 829 = .ok (.iload_n 3, 1) := by decide +kernel
theorem dL_law_830 : decode cL_law 830 = .ok (.iconst 2, 1) := by decide +kernel
theorem dL_law_831 : decode cL_law 831 = .ok (.iadd, 1) := by decide +kernel
theorem dL_law_832 : decode cL_law 832 = .ok (.iaload, 1) := by decide +kernel
theorem dL_law_833 : decode cL_law 833 = .ok (.invokevirtual 95, 3) := by decide +kernel
theorem dL_law_836 : decode cL_law 836 = .ok (.if_icmp .eq 929, 3) := by decide +kernel
theorem dL_law_839 : decode cL_law 839 = .ok (.iconst 0, 1) := by decide +kernel
theorem dL_law_840 : decode cL_law 840 = .ok (.ireturn, 1) := by decide +kernel
theorem dL_law_841 : decode cL_law 841 = .ok (.aload_n 1, 1) := by decide +kernel
theorem dL_law_842 : decode cL_law 842 = .ok (.aload_n 0, 1) := by decide +kernel
theorem dL_law_843 : decode cL_law 843 = .ok (.iload_n 3, 1) := by decide +kernel
theorem dL_law_844 : decode cL_law 844 = .ok (.iconst 1, 1) := by decide +kernel
theorem dL_law_845 : decode cL_law 845 = .ok (.iadd, 1) := by decide +kernel
theorem dL_law_846 : decode cL_law 846 = .ok (.iaload, 1) := by decide +kernel
theorem dL_law_847 : decode cL_law 847 = .ok (.aload_n 0, 1) := by decide +kernel
theorem dL_law_848 : decode cL_law 848 = .ok (.iload_n 3, 1) := by decide +kernel
theorem dL_law_849 : decode cL_law 849 = .ok (.iconst 2, 1) := by decide +kernel
theorem dL_law_850 : decode cL_law 850 = .ok (.iadd, 1) := by decide +kernel
theorem dL_law_851 : decode cL_law 851 = .ok (.iaload, 1) := by decide +kernel
theorem dL_law_852 : decode cL_law 852 = .ok (.invokevirtual 96, 3) := by decide +kernel
theorem dL_law_855 : decode cL_law 855 = .ok (.aload_n 2, 1) := by decide +kernel
theorem dL_law_856 : decode cL_law 856 = .ok (.aload_n 0, 1) := by decide +kernel
theorem dL_law_857 : decode cL_law 857 = .ok (.iload_n 3, 1) := by decide +kernel
theorem dL_law_858 : decode cL_law 858 = .ok (.iconst 1, 1) := by decide +kernel
theorem dL_law_859 : decode cL_law 859 = .ok (.iadd, 1) := by decide +kernel
theorem dL_law_860 : decode cL_law 860 = .ok (.iaload, 1) := by decide +kernel
theorem dL_law_861 : decode cL_law 861 = .ok (.aload_n 0, 1) := by decide +kernel
theorem dL_law_862 : decode cL_law 862 = .ok (.iload_n 3, 1) := by decide +kernel
theorem dL_law_863 : decode cL_law 863 = .ok (.iconst 2, 1) := by decide +kernel
theorem dL_law_864 : decode cL_law 864 = .ok (.iadd, 1) := by decide +kernel
theorem dL_law_865 : decode cL_law 865 = .ok (.iaload, 1) := by decide +kernel
theorem dL_law_866 : decode cL_law 866 = .ok (.invokevirtual 99, 3) := by decide +kernel
theorem dL_law_869 : decode cL_law 869 = .ok (.if_icmp .eq 896, 3) := by decide +kernel
theorem dL_law_872 : decode cL_law 872 = .ok (.iconst 0, 1) := by decide +kernel
theorem dL_law_873 : decode cL_law 873 = .ok (.ireturn, 1) := by decide +kernel
theorem dL_law_874 : decode cL_law 874 = .ok (.aload_n 1, 1) := by decide +kernel
theorem dL_law_875 : decode cL_law 875 = .ok (.aload_n 0, 1) := by decide +kernel
theorem dL_law_876 : decode cL_law 876 = .ok (.iload_n 3, 1) := by decide +kernel
theorem dL_law_877 : decode cL_law 877 = .ok (.iconst 1, 1) := by decide +kernel
theorem dL_law_878 : decode cL_law 878 = .ok (.iadd, 1) := by decide +kernel
theorem dL_law_879 : decode cL_law 879 = .ok (.iaload, 1) := by decide +kernel
theorem dL_law_880 : decode cL_law 880 = .ok (.invokevirtual 100, 3) := by decide +kernel
theorem dL_law_883 : decode cL_law 883 = .ok (.aload_n 2, 1) := by decide +kernel
theorem dL_law_884 : decode cL_law 884 = .ok (.aload_n 0, 1) := by decide +kernel
theorem dL_law_885 : decode cL_law 885 = .ok (.iload_n 3, 1) := by decide +kernel
theorem dL_law_886 : decode cL_law 886 = .ok (.iconst 1, 1) := by decide +kernel
theorem dL_law_887 : decode cL_law 887 = .ok (.iadd, 1) := by decide +kernel
theorem dL_law_888 : decode cL_law 888 = .ok (.iaload, 1) := by decide +kernel
theorem dL_law_889 : decode cL_law 889 = .ok (.invokevirtual 103, 3) := by decide +kernel
theorem dL_law_892 : decode cL_law 892 = .ok (.if_icmp .eq 873, 3) := by decide +kernel
theorem dL_law_895 : decode cL_law 895 = .ok (.iconst 0, 1) := by decide +kernel
theorem dL_law_896 : decode cL_law 896 = .ok (.ireturn, 1) := by decide +kernel
theorem dL_law_897 : decode cL_law 897 = .ok (.aload_n 1, 1) := by decide +kernel
theorem dL_law_898 : decode cL_law 898 = .ok (.aload_n 0, 1) := by decide +kernel
theorem dL_law_899 : decode cL_law 899 = .ok (.iload_n 3, 1) := by decide +kernel
theorem dL_law_900 : decode cL_law 900 = .ok (.iconst 1, 1) := by decide +kernel
theorem dL_law_901 : decode cL_law 901 = .ok (.iadd, 1) := by decide +kernel
theorem dL_law_902 : decode cL_law 902 = .ok (.iaload, 1) := by decide +kernel
theorem dL_law_903 : decode cL_law 903 = .ok (.invokevirtual 104, 3) := by decide +kernel
theorem dL_law_906 : decode cL_law 906 = .ok (.aload_n 2, 1) := by decide +kernel
theorem dL_law_907 : decode cL_law 907 = .ok (.aload_n 0, 1) := by decide +kernel
theorem dL_law_908 : decode cL_law 908 = .ok (.iload_n 3, 1) := by decide +kernel
theorem dL_law_909 : decode cL_law 909 = .ok (.iconst 1, 1) := by decide +kernel
theorem dL_law_910 : decode cL_law 910 = .ok (.iadd, 1) := by decide +kernel
theorem dL_law_911 : decode cL_law 911 = .ok (.iaload, 1) := by decide +kernel
theorem dL_law_912 : decode cL_law 912 = .ok (.invokevirtual 107, 3) := by decide +kernel
theorem dL_law_915 : decode cL_law 915 = .ok (.if_icmp .eq 850, 3) := by decide +kernel
theorem dL_law_918 : decode cL_law 918 = .ok (.iconst 0, 1) := by decide +kernel
theorem dL_law_919 : decode cL_law 919 = .ok (.ireturn, 1) := by decide +kernel
theorem dL_law_920 : decode cL_law 920 = .ok (.aload_n 1, 1) := by decide +kernel
theorem dL_law_921 : decode cL_law 921 = .ok (.aload_n 0, 1) := by decide +kernel
theorem dL_law_922 : decode cL_law 922 = .ok (.iload_n 3, 1) := by decide +kernel
theorem dL_law_923 : decode cL_law 923 = .ok (.iconst 1, 1) := by decide +kernel
theorem dL_law_924 : decode cL_law 924 = .ok (.iadd, 1) := by decide +kernel
theorem dL_law_925 : decode cL_law 925 = .ok (.iaload, 1) := by decide +kernel
theorem dL_law_926 : decode cL_law 926 = .ok (.aload_n 0, 1) := by decide +kernel
theorem dL_law_927 : decode cL_law 927 = .ok (.iload_n 3, 1) := by decide +kernel
theorem dL_law_928 : decode cL_law 928 = .ok (.iconst 2, 1) := by decide +kernel
theorem dL_law_929 : decode cL_law 929 = .ok (.iadd, 1) := by decide +kernel
theorem dL_law_930 : decode cL_law 930 = .ok (.iaload, 1) := by decide +kernel
theorem dL_law_931 : decode cL_law 931 = .ok (.invokevirtual 108, 3) := by decide +kernel
theorem dL_law_934 : decode cL_law 934 = .ok (.aload_n 2, 1) := by decide +kernel
theorem dL_law_935 : decode cL_law 935 = .ok (.aload_n 0, 1) := by decide +kernel
theorem dL_law_936 : decode cL_law 936 = .ok (.iload_n 3, 1) := by decide +kernel
theorem dL_law_937 : decode cL_law 937 = .ok (.iconst 1, 1) := by decide +kernel
theorem dL_law_938 : decode cL_law 938 = .ok (.iadd, 1) := by decide +kernel
theorem dL_law_939 : decode cL_law 939 = .ok (.iaload, 1) := by decide +kernel
theorem dL_law_940 : decode cL_law 940 = .ok (.aload_n 0, 1) := by decide +kernel
theorem dL_law_941 : decode cL_law 941 = .ok (.iload_n 3, 1) := by decide +kernel
theorem dL_law_942 : decode cL_law 942 = .ok (.iconst 2, 1) := by decide +kernel
theorem dL_law_943 : decode cL_law 943 = .ok (.iadd, 1) := by decide +kernel
theorem dL_law_944 : decode cL_law 944 = .ok (.iaload, 1) := by decide +kernel
theorem dL_law_945 : decode cL_law 945 = .ok (.invokevirtual 111, 3) := by decide +kernel
theorem dL_law_948 : decode cL_law 948 = .ok (.if_icmp .eq 817, 3) := by decide +kernel
theorem dL_law_951 : decode cL_law 951 = .ok (.iconst 0, 1) := by decide +kernel
theorem dL_law_952 : decode cL_law 952 = .ok (.ireturn, 1) := by decide +kernel
theorem dL_law_953 : decode cL_law 953 = .ok (.aload_n 1, 1) := by decide +kernel
theorem dL_law_954 : decode cL_law 954 = .ok (.aload_n 0, 1) := by decide +kernel
theorem dL_law_955 : decode cL_law 955 = .ok (.iload_n 3, 1) := by decide +kernel
theorem dL_law_956 : decode cL_law 956 = .ok (.iconst 1, 1) := by decide +kernel
theorem dL_law_957 : decode cL_law 957 = .ok (.iadd, 1) := by decide +kernel
theorem dL_law_958 : decode cL_law 958 = .ok (.iaload, 1) := by decide +kernel
theorem dL_law_959 : decode cL_law 959 = .ok (.aload_n 0, 1) := by decide +kernel
theorem dL_law_960 : decode cL_law 960 = .ok (.iload_n 3, 1) := by decide +kernel
theorem dL_law_961 : decode cL_law 961 = .ok (.iconst 2, 1) := by decide +kernel
theorem dL_law_962 : decode cL_law 962 = .ok (.iadd, 1) := by decide +kernel
theorem dL_law_963 : decode cL_law 963 = .ok (.iaload, 1) := by decide +kernel
theorem dL_law_964 : decode cL_law 964 = .ok (.aload_n 0, 1) := by decide +kernel
theorem dL_law_965 : decode cL_law 965 = .ok (.iload_n 3, 1) := by decide +kernel
theorem dL_law_966 : decode cL_law 966 = .ok (.iconst 3, 1) := by decide +kernel
theorem dL_law_967 : decode cL_law 967 = .ok (.iadd, 1) := by decide +kernel
theorem dL_law_968 : decode cL_law 968 = .ok (.iaload, 1) := by decide +kernel
theorem dL_law_969 : decode cL_law 969 = .ok (.invokevirtual 112, 3) := by decide +kernel
theorem dL_law_972 : decode cL_law 972 = .ok (.aload_n 2, 1) := by decide +kernel
theorem dL_law_973 : decode cL_law 973 = .ok (.aload_n 0, 1) := by decide +kernel
theorem dL_law_974 : decode cL_law 974 = .ok (.iload_n 3, 1) := by decide +kernel
theorem dL_law_975 : decode cL_law 975 = .ok (.iconst 1, 1) := by decide +kernel
theorem dL_law_976 : decode cL_law 976 = .ok (.iadd, 1) := by decide +kernel
theorem dL_law_977 : decode cL_law 977 = .ok (.iaload, 1) := by decide +kernel
theorem dL_law_978 : decode cL_law 978 = .ok (.aload_n 0, 1) := by decide +kernel
theorem dL_law_979 : decode cL_law 979 = .ok (.iload_n 3, 1) := by decide +kernel
theorem dL_law_980 : decode cL_law 980 = .ok (.iconst 2, 1) := by decide +kernel
theorem dL_law_981 : decode cL_law 981 = .ok (.iadd, 1) := by decide +kernel
theorem dL_law_982 : decode cL_law 982 = .ok (.iaload, 1) := by decide +kernel
theorem dL_law_983 : decode cL_law 983 = .ok (.aload_n 0, 1) := by decide +kernel
theorem dL_law_984 : decode cL_law 984 = .ok (.iload_n 3, 1) := by decide +kernel
theorem dL_law_985 : decode cL_law 985 = .ok (.iconst 3, 1) := by decide +kernel
theorem dL_law_986 : decode cL_law 986 = .ok (.iadd, 1) := by decide +kernel
theorem dL_law_987 : decode cL_law 987 = .ok (.iaload, 1) := by decide +kernel
theorem dL_law_988 : decode cL_law 988 = .ok (.invokevirtual 116, 3) := by decide +kernel
theorem dL_law_991 : decode cL_law 991 = .ok (.if_icmp .eq 774, 3) := by decide +kernel
theorem dL_law_994 : decode cL_law 994 = .ok (.iconst 0, 1) := by decide +kernel
theorem dL_law_995 : decode cL_law 995 = .ok (.ireturn, 1) := by decide +kernel
theorem dL_law_996 : decode cL_law 996 = .ok (.aload_n 1, 1) := by decide +kernel
theorem dL_law_997 : decode cL_law 997 = .ok (.aload_n 0, 1) := by decide +kernel
theorem dL_law_998 : decode cL_law 998 = .ok (.iload_n 3, 1) := by decide +kernel
theorem dL_law_999 : decode cL_law 999 = .ok (.iconst 1, 1) := by decide +kernel
theorem dL_law_1000 : decode cL_law 1000 = .ok (.iadd, 1) := by decide +kernel
theorem dL_law_1001 : decode cL_law 1001 = .ok (.iaload, 1) := by decide +kernel
theorem dL_law_1002 : decode cL_law 1002 = .ok (.invokevirtual 117, 3) := by decide +kernel
theorem dL_law_1005 : decode cL_law 1005 = .ok (.aload_n 2, 1) := by decide +kernel
theorem dL_law_1006 : decode cL_law 1006 = .ok (.aload_n 0, 1) := by decide +kernel
theorem dL_law_1007 : decode cL_law 1007 = .ok (.iload_n 3, 1) := by decide +kernel
theorem dL_law_1008 : decode cL_law 1008 = .ok (.iconst 1, 1) := by decide +kernel
theorem dL_law_1009 : decode cL_law 1009 = .ok (.iadd, 1) := by decide +kernel
theorem dL_law_1010 : decode cL_law 1010 = .ok (.iaload, 1) := by decide +kernel
theorem dL_law_1011 : decode cL_law 1011 = .ok (.invokevirtual 120, 3) := by decide +kernel
theorem dL_law_1014 : decode cL_law 1014 = .ok (.if_icmp .eq 751, 3) := by decide +kernel
theorem dL_law_1017 : decode cL_law 1017 = .ok (.iconst 0, 1) := by decide +kernel
theorem dL_law_1018 : decode cL_law 1018 = .ok (.ireturn, 1) := by decide +kernel
theorem dL_law_1019 : decode cL_law 1019 = .ok (.aload_n 1, 1) := by decide +kernel
theorem dL_law_1020 : decode cL_law 1020 = .ok (.aload_n 0, 1) := by decide +kernel
theorem dL_law_1021 : decode cL_law 1021 = .ok (.iload_n 3, 1) := by decide +kernel
theorem dL_law_1022 : decode cL_law 1022 = .ok (.iconst 1, 1) := by decide +kernel
theorem dL_law_1023 : decode cL_law 1023 = .ok (.iadd, 1) := by decide +kernel
theorem dL_law_1024 : decode cL_law 1024 = .ok (.iaload, 1) := by decide +kernel
theorem dL_law_1025 : decode cL_law 1025 = .ok (.aload_n 0, 1) := by decide +kernel
theorem dL_law_1026 : decode cL_law 1026 = .ok (.iload_n 3, 1) := by decide +kernel
theorem dL_law_1027 : decode cL_law 1027 = .ok (.iconst 2, 1) := by decide +kernel
theorem dL_law_1028 : decode cL_law 1028 = .ok (.iadd, 1) := by decide +kernel
theorem dL_law_1029 : decode cL_law 1029 = .ok (.iaload, 1) := by decide +kernel
theorem dL_law_1030 : decode cL_law 1030 = .ok (.invokevirtual 121, 3) := by decide +kernel
theorem dL_law_1033 : decode cL_law 1033 = .ok (.aload_n 2, 1) := by decide +kernel
theorem dL_law_1034 : decode cL_law 1034 = .ok (.aload_n 0, 1) := by decide +kernel
theorem dL_law_1035 : decode cL_law 1035 = .ok (.iload_n 3, 1) := by decide +kernel
theorem dL_law_1036 : decode cL_law 1036 = .ok (.iconst 1, 1) := by decide +kernel
theorem dL_law_1037 : decode cL_law 1037 = .ok (.iadd, 1) := by decide +kernel
theorem dL_law_1038 : decode cL_law 1038 = .ok (.iaload, 1) := by decide +kernel
theorem dL_law_1039 : decode cL_law 1039 = .ok (.aload_n 0, 1) := by decide +kernel
theorem dL_law_1040 : decode cL_law 1040 = .ok (.iload_n 3, 1) := by decide +kernel
theorem dL_law_1041 : decode cL_law 1041 = .ok (.iconst 2, 1) := by decide +kernel
theorem dL_law_1042 : decode cL_law 1042 = .ok (.iadd, 1) := by decide +kernel
theorem dL_law_1043 : decode cL_law 1043 = .ok (.iaload, 1) := by decide +kernel
theorem dL_law_1044 : decode cL_law 1044 = .ok (.invokevirtual 124, 3) := by decide +kernel
theorem dL_law_1047 : decode cL_law 1047 = .ok (.if_icmp .eq 718, 3) := by decide +kernel
theorem dL_law_1050 : decode cL_law 1050 = .ok (.iconst 0, 1) := by decide +kernel
theorem dL_law_1051 : decode cL_law 1051 = .ok (.ireturn, 1) := by decide +kernel
theorem dL_law_1052 : decode cL_law 1052 = .ok (.aload_n 1, 1) := by decide +kernel
theorem dL_law_1053 : decode cL_law 1053 = .ok (.aload_n 0, 1) := by decide +kernel
theorem dL_law_1054 : decode cL_law 1054 = .ok (.iload_n 3, 1) := by decide +kernel
theorem dL_law_1055 : decode cL_law 1055 = .ok (.iconst 1, 1) := by decide +kernel
theorem dL_law_1056 : decode cL_law 1056 = .ok (.iadd, 1) := by decide +kernel
theorem dL_law_1057 : decode cL_law 1057 = .ok (.iaload, 1) := by decide +kernel
theorem dL_law_1058 : decode cL_law 1058 = .ok (.aload_n 0, 1) := by decide +kernel
theorem dL_law_1059 : decode cL_law 1059 = .ok (.iload_n 3, 1) := by decide +kernel
theorem dL_law_1060 : decode cL_law 1060 = .ok (.iconst 2, 1) := by decide +kernel
theorem dL_law_1061 : decode cL_law 1061 = .ok (.iadd, 1) := by decide +kernel
theorem dL_law_1062 : decode cL_law 1062 = .ok (.iaload, 1) := by decide +kernel
theorem dL_law_1063 : decode cL_law 1063 = .ok (.aload_n 0, 1) := by decide +kernel
theorem dL_law_1064 : decode cL_law 1064 = .ok (.iload_n 3, 1) := by decide +kernel
theorem dL_law_1065 : decode cL_law 1065 = .ok (.iconst 3, 1) := by decide +kernel
theorem dL_law_1066 : decode cL_law 1066 = .ok (.iadd, 1) := by decide +kernel
theorem dL_law_1067 : decode cL_law 1067 = .ok (.iaload, 1) := by decide +kernel
theorem dL_law_1068 : decode cL_law 1068 = .ok (.ifCond .eq 7, 3) := by decide +kernel
theorem dL_law_1071 : decode cL_law 1071 = .ok (.iconst 1, 1) := by decide +kernel
theorem dL_law_1072 : decode cL_law 1072 = .ok (.goto 4, 3) := by decide +kernel
theorem dL_law_1075 : decode cL_law 1075 = .ok (.iconst 0, 1) := by decide +kernel
theorem dL_law_1076 : decode cL_law 1076 = .ok (.invokevirtual 125, 3) := by decide +kernel
theorem dL_law_1079 : decode cL_law 1079 = .ok (.aload_n 2, 1) := by decide +kernel
theorem dL_law_1080 : decode cL_law 1080 = .ok (.aload_n 0, 1) := by decide +kernel
theorem dL_law_1081 : decode cL_law 1081 = .ok (.iload_n 3, 1) := by decide +kernel
theorem dL_law_1082 : decode cL_law 1082 = .ok (.iconst 1, 1) := by decide +kernel
theorem dL_law_1083 : decode cL_law 1083 = .ok (.iadd, 1) := by decide +kernel
theorem dL_law_1084 : decode cL_law 1084 = .ok (.iaload, 1) := by decide +kernel
theorem dL_law_1085 : decode cL_law 1085 = .ok (.aload_n 0, 1) := by decide +kernel
theorem dL_law_1086 : decode cL_law 1086 = .ok (.iload_n 3, 1) := by decide +kernel
theorem dL_law_1087 : decode cL_law 1087 = .ok (.iconst 2, 1) := by decide +kernel
theorem dL_law_1088 : decode cL_law 1088 = .ok (.iadd, 1) := by decide +kernel
theorem dL_law_1089 : decode cL_law 1089 = .ok (.iaload, 1) := by decide +kernel
theorem dL_law_1090 : decode cL_law 1090 = .ok (.aload_n 0, 1) := by decide +kernel
theorem dL_law_1091 : decode cL_law 1091 = .ok (.iload_n 3, 1) := by decide +kernel
theorem dL_law_1092 : decode cL_law 1092 = .ok (.iconst 3, 1) := by decide +kernel
theorem dL_law_1093 : decode cL_law 1093 = .ok (.iadd, 1) := by decide +kernel
theorem dL_law_1094 : decode cL_law 1094 = .ok (.iaload, 1) := by decide +kernel
theorem dL_law_1095 : decode cL_law 1095 = .ok (.ifCond .eq 7, 3) := by decide +kernel
theorem dL_law_1098 : decode cL_law 1098 = .ok (.iconst 1, 1) := by decide +kernel
theorem dL_law_1099 : decode cL_law 1099 = .ok (.goto 4, 3) := by decide +kernel
theorem dL_law_1102 : decode cL_law 1102 = .ok (.iconst 0, 1) := by decide +kernel
theorem dL_law_1103 : decode cL_law 1103 = .ok (.invokevirtual 129, 3) := by decide +kernel
theorem dL_law_1106 : decode cL_law 1106 = .ok (.if_icmp .eq 659, 3) := by decide +kernel
theorem dL_law_1109 : decode cL_law 1109 = .ok (.iconst 0, 1) := by decide +kernel
theorem dL_law_1110 : decode cL_law 1110 = .ok (.ireturn, 1) := by decide +kernel
theorem dL_law_1111 : decode cL_law 1111 = .ok (.aload_n 1, 1) := by decide +kernel
theorem dL_law_1112 : decode cL_law 1112 = .ok (.aload_n 0, 1) := by decide +kernel
theorem dL_law_1113 : decode cL_law 1113 = .ok (.iload_n 3, 1) := by decide +kernel
theorem dL_law_1114 : decode cL_law 1114 = .ok (.iconst 1, 1) := by decide +kernel
theorem dL_law_1115 : decode cL_law 1115 = .ok (.iadd, 1) := by decide +kernel
theorem dL_law_1116 : decode cL_law 1116 = .ok (.iaload, 1) := by decide +kernel
theorem dL_law_1117 : decode cL_law 1117 = .ok (.aload_n 0, 1) := by decide +kernel
theorem dL_law_1118 : decode cL_law 1118 = .ok (.iload_n 3, 1) := by decide +kernel
theorem dL_law_1119 : decode cL_law 1119 = .ok (.iconst 2, 1) := by decide +kernel
theorem dL_law_1120 : decode cL_law 1120 = .ok (.iadd, 1) := by decide +kernel
theorem dL_law_1121 : decode cL_law 1121 = .ok (.iaload, 1) := by decide +kernel
theorem dL_law_1122 : decode cL_law 1122 = .ok (.aload_n 0, 1) := by decide +kernel
theorem dL_law_1123 : decode cL_law 1123 = .ok (.iload_n 3, 1) := by decide +kernel
theorem dL_law_1124 : decode cL_law 1124 = .ok (.iconst 3, 1) := by decide +kernel
theorem dL_law_1125 : decode cL_law 1125 = .ok (.iadd, 1) := by decide +kernel
theorem dL_law_1126 : decode cL_law 1126 = .ok (.iaload, 1) := by decide +kernel
theorem dL_law_1127 : decode cL_law 1127 = .ok (.aload_n 0, 1) := by decide +kernel
theorem dL_law_1128 : decode cL_law 1128 = .ok (.iload_n 3, 1) := by decide +kernel
theorem dL_law_1129 : decode cL_law 1129 = .ok (.iconst 4, 1) := by decide +kernel
theorem dL_law_1130 : decode cL_law 1130 = .ok (.iadd, 1) := by decide +kernel
theorem dL_law_1131 : decode cL_law 1131 = .ok (.iaload, 1) := by decide +kernel
theorem dL_law_1132 : decode cL_law 1132 = .ok (.aload_n 0, 1) := by decide +kernel
theorem dL_law_1133 : decode cL_law 1133 = .ok (.iload_n 3, 1) := by decide +kernel
theorem dL_law_1134 : decode cL_law 1134 = .ok (.iconst 5, 1) := by decide +kernel
theorem dL_law_1135 : decode cL_law 1135 = .ok (.iadd, 1) := by decide +kernel
theorem dL_law_1136 : decode cL_law 1136 = .ok (.iaload, 1) := by decide +kernel
theorem dL_law_1137 : decode cL_law 1137 = .ok (.invokevirtual 130, 3) := by decide +kernel
theorem dL_law_1140 : decode cL_law 1140 = .ok (.aload_n 2, 1) := by decide +kernel
theorem dL_law_1141 : decode cL_law 1141 = .ok (.aload_n 0, 1) := by decide +kernel
theorem dL_law_1142 : decode cL_law 1142 = .ok (.iload_n 3, 1) := by decide +kernel
theorem dL_law_1143 : decode cL_law 1143 = .ok (.iconst 1, 1) := by decide +kernel
theorem dL_law_1144 : decode cL_law 1144 = .ok (.iadd, 1) := by decide +kernel
theorem dL_law_1145 : decode cL_law 1145 = .ok (.iaload, 1) := by decide +kernel
theorem dL_law_1146 : decode cL_law 1146 = .ok (.aload_n 0, 1) := by decide +kernel
theorem dL_law_1147 : decode cL_law 1147 = .ok (.iload_n 3, 1) := by decide +kernel
theorem dL_law_1148 : decode cL_law 1148 = .ok (.iconst 2, 1) := by decide +kernel
theorem dL_law_1149 : decode cL_law 1149 = .ok (.iadd, 1) := by decide +kernel
theorem dL_law_1150 : decode cL_law 1150 = .ok (.iaload, 1) := by decide +kernel
theorem dL_law_1151 : decode cL_law 1151 = .ok (.aload_n 0, 1) := by decide +kernel
theorem dL_law_1152 : decode cL_law 1152 = .ok (.iload_n 3, 1) := by decide +kernel
theorem dL_law_1153 : decode cL_law 1153 = .ok (.iconst 3, 1) := by decide +kernel
theorem dL_law_1154 : decode cL_law 1154 = .ok (.iadd, 1) := by decide +kernel
theorem dL_law_1155 : decode cL_law 1155 = .ok (.iaload, 1) := by decide +kernel
theorem dL_law_1156 : decode cL_law 1156 = .ok (.aload_n 0, 1) := by decide +kernel
theorem dL_law_1157 : decode cL_law 1157 = .ok (.iload_n 3, 1) := by decide +kernel
theorem dL_law_1158 : decode cL_law 1158 = .ok (.iconst 4, 1) := by decide +kernel
theorem dL_law_1159 : decode cL_law 1159 = .ok (.iadd, 1) := by decide +kernel
theorem dL_law_1160 : decode cL_law 1160 = .ok (.iaload, 1) := by decide +kernel
theorem dL_law_1161 : decode cL_law 1161 = .ok (.aload_n 0, 1) := by decide +kernel
theorem dL_law_1162 : decode cL_law 1162 = .ok (.iload_n 3, 1) := by decide +kernel
theorem dL_law_1163 : decode cL_law 1163 = .ok (.iconst 5, 1) := by decide +kernel
theorem dL_law_1164 : decode cL_law 1164 = .ok (.iadd, 1) := by decide +kernel
theorem dL_law_1165 : decode cL_law 1165 = .ok (.iaload, 1) := by decide +kernel
theorem dL_law_1166 : decode cL_law 1166 = .ok (.invokevirtual 133, 3) := by decide +kernel
theorem dL_law_1169 : decode cL_law 1169 = .ok (.if_icmp .eq 596, 3) := by decide +kernel
theorem dL_law_1172 : decode cL_law 1172 = .ok (.iconst 0, 1) := by decide +kernel
theorem dL_law_1173 : decode cL_law 1173 = .ok (.ireturn, 1) := by decide +kernel
theorem dL_law_1174 : decode cL_law 1174 = .ok (.aload_n 1, 1) := by decide +kernel
theorem dL_law_1175 : decode cL_law 1175 = .ok (.aload_n 0, 1) := by decide +kernel
theorem dL_law_1176 : decode cL_law 1176 = .ok (.iload_n 3, 1) := by decide +kernel
theorem dL_law_1177 : decode cL_law 1177 = .ok (.iconst 1, 1) := by decide +kernel
theorem dL_law_1178 : decode cL_law 1178 = .ok (.iadd, 1) := by decide +kernel
theorem dL_law_1179 : decode cL_law 1179 = .ok (.iaload, 1) := by decide +kernel
theorem dL_law_1180 : decode cL_law 1180 = .ok (.aload_n 0, 1) := by decide +kernel
theorem dL_law_1181 : decode cL_law 1181 = .ok (.iload_n 3, 1) := by decide +kernel
theorem dL_law_1182 : decode cL_law 1182 = .ok (.iconst 2, 1) := by decide +kernel
theorem dL_law_1183 : decode cL_law 1183 = .ok (.iadd, 1) := by decide +kernel
theorem dL_law_1184 : decode cL_law 1184 = .ok (.iaload, 1) := by decide +kernel
theorem dL_law_1185 : decode cL_law 1185 = .ok (.invokevirtual 134, 3) := by decide +kernel
theorem dL_law_1188 : decode cL_law 1188 = .ok (.aload_n 2, 1) := by decide +kernel
theorem dL_law_1189 : decode cL_law 1189 = .ok (.aload_n 0, 1) := by decide +kernel
theorem dL_law_1190 : decode cL_law 1190 = .ok (.iload_n 3, 1) := by decide +kernel
theorem dL_law_1191 : decode cL_law 1191 = .ok (.iconst 1, 1) := by decide +kernel
theorem dL_law_1192 : decode cL_law 1192 = .ok (.iadd, 1) := by decide +kernel
theorem dL_law_1193 : decode cL_law 1193 = .ok (.iaload, 1) := by decide +kernel
theorem dL_law_1194 : decode cL_law 1194 = .ok (.aload_n 0, 1) := by decide +kernel
theorem dL_law_1195 : decode cL_law 1195 = .ok (.iload_n 3, 1) := by decide +kernel
theorem dL_law_1196 : decode cL_law 1196 = .ok (.iconst 2, 1) := by decide +kernel
theorem dL_law_1197 : decode cL_law 1197 = .ok (.iadd, 1) := by decide +kernel
theorem dL_law_1198 : decode cL_law 1198 = .ok (.iaload, 1) := by decide +kernel
theorem dL_law_1199 : decode cL_law 1199 = .ok (.invokevirtual 138, 3) := by decide +kernel
theorem dL_law_1202 : decode cL_law 1202 = .ok (.if_icmp .eq 563, 3) := by decide +kernel
theorem dL_law_1205 : decode cL_law 1205 = .ok (.iconst 0, 1) := by decide +kernel
theorem dL_law_1206 : decode cL_law 1206 = .ok (.ireturn, 1) := by decide +kernel
theorem dL_law_1207 : decode cL_law 1207 = .ok (.aload_n 1, 1) := by decide +kernel
theorem dL_law_1208 : decode cL_law 1208 = .ok (.aload_n 0, 1) := by decide +kernel
theorem dL_law_1209 : decode cL_law 1209 = .ok (.iload_n 3, 1) := by decide +kernel
theorem dL_law_1210 : decode cL_law 1210 = .ok (.iconst 1, 1) := by decide +kernel
theorem dL_law_1211 : decode cL_law 1211 = .ok (.iadd, 1) := by decide +kernel
theorem dL_law_1212 : decode cL_law 1212 = .ok (.iaload, 1) := by decide +kernel
theorem dL_law_1213 : decode cL_law 1213 = .ok (.aload_n 0, 1) := by decide +kernel
theorem dL_law_1214 : decode cL_law 1214 = .ok (.iload_n 3, 1) := by decide +kernel
theorem dL_law_1215 : decode cL_law 1215 = .ok (.iconst 2, 1) := by decide +kernel
theorem dL_law_1216 : decode cL_law 1216 = .ok (.iadd, 1) := by decide +kernel
theorem dL_law_1217 : decode cL_law 1217 = .ok (.iaload, 1) := by decide +kernel
theorem dL_law_1218 : decode cL_law 1218 = .ok (.invokevirtual 139, 3) := by decide +kernel
theorem dL_law_1221 : decode cL_law 1221 = .ok (.aload_n 2, 1) := by decide +kernel
theorem dL_law_1222 : decode cL_law 1222 = .ok (.aload_n 0, 1) := by decide +kernel
theorem dL_law_1223 : decode cL_law 1223 = .ok (.iload_n 3, 1) := by decide +kernel
theorem dL_law_1224 : decode cL_law 1224 = .ok (.iconst 1, 1) := by decide +kernel
theorem dL_law_1225 : decode cL_law 1225 = .ok (.iadd, 1) := by decide +kernel
theorem dL_law_1226 : decode cL_law 1226 = .ok (.iaload, 1) := by decide +kernel
theorem dL_law_1227 : decode cL_law 1227 = .ok (.aload_n 0, 1) := by decide +kernel
theorem dL_law_1228 : decode cL_law 1228 = .ok (.iload_n 3, 1) := by decide +kernel
theorem dL_law_1229 : decode cL_law 1229 = .ok (.iconst 2, 1) := by decide +kernel
theorem dL_law_1230 : decode cL_law 1230 = .ok (.iadd, 1) := by decide +kernel
theorem dL_law_1231 : decode cL_law 1231 = .ok (.iaload, 1) := by decide +kernel
theorem dL_law_1232 : decode cL_law 1232 = .ok (.invokevirtual 142, 3) := by decide +kernel
theorem dL_law_1235 : decode cL_law 1235 = .ok (.if_icmp .eq 530, 3) := by decide +kernel
theorem dL_law_1238 : decode cL_law 1238 = .ok (.iconst 0, 1) := by decide +kernel
theorem dL_law_1239 : decode cL_law 1239 = .ok (.ireturn, 1) := by decide +kernel
theorem dL_law_1240 : decode cL_law 1240 = .ok (.aload_n 1, 1) := by decide +kernel
theorem dL_law_1241 : decode cL_law 1241 = .ok (.invokevirtual 143, 3) := by decide +kernel
theorem dL_law_1244 : decode cL_law 1244 = .ok (.aload_n 2, 1) := by decide +kernel
theorem dL_law_1245 : decode cL_law 1245 = .ok (.invokevirtual 146, 3) := by decide +kernel
theorem dL_law_1248 : decode cL_law 1248 = .ok (.if_icmp .eq 517, 3) := by decide +kernel
theorem dL_law_1251 : decode cL_law 1251 = .ok (.iconst 0, 1) := by decide +kernel
theorem dL_law_1252 : decode cL_law 1252 = .ok (.ireturn, 1) := by decide +kernel
theorem dL_law_1253 : decode cL_law 1253 = .ok (.aload_n 1, 1) := by decide +kernel
theorem dL_law_1254 : decode cL_law 1254 = .ok (.invokevirtual 147, 3) := by decide +kernel
theorem dL_law_1257 : decode cL_law 1257 = .ok (.aload_n 2, 1) := by decide +kernel
theorem dL_law_1258 : decode cL_law 1258 = .ok (.invokevirtual 150, 3) := by decide +kernel
theorem dL_law_1261 : decode cL_law 1261 = .ok (.if_icmp .eq 504, 3) := by decide +kernel
theorem dL_law_1264 : decode cL_law 1264 = .ok (.iconst 0, 1) := by decide +kernel
theorem dL_law_1265 : decode cL_law 1265 = .ok (.ireturn, 1) := by decide +kernel
theorem dL_law_1266 : decode cL_law 1266 = .ok (.aload_n 1, 1) := by decide +kernel
theorem dL_law_1267 : decode cL_law 1267 = .ok (.aload_n 0, 1) := by decide +kernel
theorem dL_law_1268 : decode cL_law 1268 = .ok (.iload_n 3, 1) := by decide +kernel
theorem dL_law_1269 : decode cL_law 1269 = .ok (.iconst 1, 1) := by decide +kernel
theorem dL_law_1270 : decode cL_law 1270 = .ok (.iadd, 1) := by decide +kernel
theorem dL_law_1271 : decode cL_law 1271 = .ok (.iaload, 1) := by decide +kernel
theorem dL_law_1272 : decode cL_law 1272 = .ok (.aload_n 0, 1) := by decide +kernel
theorem dL_law_1273 : decode cL_law 1273 = .ok (.iload_n 3, 1) := by decide +kernel
theorem dL_law_1274 : decode cL_law 1274 = .ok (.iconst 2, 1) := by decide +kernel
theorem dL_law_1275 : decode cL_law 1275 = .ok (.iadd, 1) := by decide +kernel
theorem dL_law_1276 : decode cL_law 1276 = .ok (.iaload, 1) := by decide +kernel
theorem dL_law_1277 : decode cL_law 1277 = .ok (.invokevirtual 151, 3) := by decide +kernel
theorem dL_law_1280 : decode cL_law 1280 = .ok (.aload_n 2, 1) := by decide +kernel
theorem dL_law_1281 : decode cL_law 1281 = .ok (.aload_n 0, 1) := by decide +kernel
theorem dL_law_1282 : decode cL_law 1282 = .ok (.iload_n 3, 1) := by decide +kernel
theorem dL_law_1283 : decode cL_law 1283 = .ok (.iconst 1, 1) := by decide +kernel
theorem dL_law_1284 : decode cL_law 1284 = .ok (.iadd, 1) := by decide +kernel
theorem dL_law_1285 : decode cL_law 1285 = .ok (.iaload, 1) := by decide +kernel
theorem dL_law_1286 : decode cL_law 1286 = .ok (.aload_n 0, 1) := by decide +kernel
theorem dL_law_1287 : decode cL_law 1287 = .ok (.iload_n 3, 1) := by decide +kernel
theorem dL_law_1288 : decode cL_law 1288 = .ok (.iconst 2, 1) := by decide +kernel
theorem dL_law_1289 : decode cL_law 1289 = .ok (.iadd, 1) := by decide +kernel
theorem dL_law_1290 : decode cL_law 1290 = .ok (.iaload, 1) := by decide +kernel
theorem dL_law_1291 : decode cL_law 1291 = .ok (.invokevirtual 154, 3) := by decide +kernel
theorem dL_law_1294 : decode cL_law 1294 = .ok (.if_icmp .eq 471, 3) := by decide +kernel
theorem dL_law_1297 : decode cL_law 1297 = .ok (.iconst 0, 1) := by decide +kernel
theorem dL_law_1298 : decode cL_law 1298 = .ok (.ireturn, 1) := by decide +kernel
theorem dL_law_1299 : decode cL_law 1299 = .ok (.aload_n 1, 1) := by decide +kernel
theorem dL_law_1300 : decode cL_law 1300 = .ok (.aload_n 0, 1) := by decide +kernel
theorem dL_law_1301 : decode cL_law 1301 = .ok (.iload_n 3, 1) := by decide +kernel
theorem dL_law_1302 : decode cL_law 1302 = .ok (.iconst 1, 1) := by decide +kernel
theorem dL_law_1303 : decode cL_law 1303 = .ok (.iadd, 1) := by decide +kernel
theorem dL_law_1304 : decode cL_law 1304 = .ok (.iaload, 1) := by decide +kernel
theorem dL_law_1305 : decode cL_law 1305 = .ok (.invokevirtual 155, 3) := by decide +kernel
theorem dL_law_1308 : decode cL_law 1308 = .ok (.aload_n 2, 1) := by decide +kernel
theorem dL_law_1309 : decode cL_law 1309 = .ok (.aload_n 0, 1) := by decide +kernel
theorem dL_law_1310 : decode cL_law 1310 = .ok (.iload_n 3, 1) := by decide +kernel
theorem dL_law_1311 : decode cL_law 1311 = .ok (.iconst 1, 1) := by decide +kernel
theorem dL_law_1312 : decode cL_law 1312 = .ok (.iadd, 1) := by decide +kernel
theorem dL_law_1313 : decode cL_law 1313 = .ok (.iaload, 1) := by decide +kernel
theorem dL_law_1314 : decode cL_law 1314 = .ok (.invokevirtual 158, 3) := by decide +kernel
theorem dL_law_1317 : decode cL_law 1317 = .ok (.if_icmp .eq 448, 3) := by decide +kernel
theorem dL_law_1320 : decode cL_law 1320 = .ok (.iconst 0, 1) := by decide +kernel
theorem dL_law_1321 : decode cL_law 1321 = .ok (.ireturn, 1) := by decide +kernel
theorem dL_law_1322 : decode cL_law 1322 = .ok (.aload_n 1, 1) := by decide +kernel
theorem dL_law_1323 : decode cL_law 1323 = .ok (.aload_n 0, 1) := by decide +kernel
theorem dL_law_1324 : decode cL_law 1324 = .ok (.iload_n 3, 1) := by decide +kernel
theorem dL_law_1325 : decode cL_law 1325 = .ok (.iconst 1, 1) := by decide +kernel
theorem dL_law_1326 : decode cL_law 1326 = .ok (.iadd, 1) := by decide +kernel
theorem dL_law_1327 : decode cL_law 1327 = .ok (.iaload, 1) := by decide +kernel
theorem dL_law_1328 : decode cL_law 1328 = .ok (.invokevirtual 159, 3) := by decide +kernel
theorem dL_law_1331 : decode cL_law 1331 = .ok (.aload_n 2, 1) := by decide +kernel
theorem dL_law_1332 : decode cL_law 1332 = .ok (.aload_n 0, 1) := by decide +kernel
theorem dL_law_1333 : decode cL_law 1333 = .ok (.iload_n 3, 1) := by decide +kernel
theorem dL_law_1334 : decode cL_law 1334 = .ok (.iconst 1, 1) := by decide +kernel
theorem dL_law_1335 : decode cL_law 1335 = .ok (.iadd, 1) := by decide +kernel
theorem dL_law_1336 : decode cL_law 1336 = .ok (.iaload, 1) := by decide +kernel
theorem dL_law_1337 : decode cL_law 1337 = .ok (.invokevirtual 162, 3) := by decide +kernel
theorem dL_law_1340 : decode cL_law 1340 = .ok (.if_icmp .eq 425, 3) := by decide +kernel
theorem dL_law_1343 : decode cL_law 1343 = .ok (.iconst 0, 1) := by decide +kernel
theorem dL_law_1344 : decode cL_law 1344 = .ok (.ireturn, 1) := by decide +kernel
theorem dL_law_1345 : decode cL_law 1345 = .ok (.aload_n 1, 1) := by decide +kernel
theorem dL_law_1346 : decode cL_law 1346 = .ok (.aload_n 0, 1) := by decide +kernel
theorem dL_law_1347 : decode cL_law 1347 = .ok (.iload_n 3, 1) := by decide +kernel
theorem dL_law_1348 : decode cL_law 1348 = .ok (.iconst 1, 1) := by decide +kernel
theorem dL_law_1349 : decode cL_law 1349 = .ok (.iadd, 1) := by decide +kernel
theorem dL_law_1350 : decode cL_law 1350 = .ok (.iaload, 1) := by decide +kernel
theorem dL_law_1351 : decode cL_law 1351 = .ok (.invokevirtual 163, 3) := by decide +kernel
theorem dL_law_1354 : decode cL_law 1354 = .ok (.aload_n 2, 1) := by decide +kernel
theorem dL_law_1355 : decode cL_law 1355 = .ok (.aload_n 0, 1) := by decide +kernel
theorem dL_law_1356 : decode cL_law 1356 = .ok (.iload_n 3, 1) := by decide +kernel
theorem dL_law_1357 : decode cL_law 1357 = .ok (.iconst 1, 1) := by decide +kernel
theorem dL_law_1358 : decode cL_law 1358 = .ok (.iadd, 1) := by decide +kernel
theorem dL_law_1359 : decode cL_law 1359 = .ok (.iaload, 1) := by decide +kernel
theorem dL_law_1360 : decode cL_law 1360 = .ok (.invokevirtual 166, 3) := by decide +kernel
theorem dL_law_1363 : decode cL_law 1363 = .ok (.if_icmp .eq 402, 3) := by decide +kernel
theorem dL_law_1366 : decode cL_law 1366 = .ok (.iconst 0, 1) := by decide +kernel
theorem dL_law_1367 : decode cL_law 1367 = .ok (.ireturn, 1) := by decide +kernel
theorem dL_law_1368 : decode cL_law 1368 = .ok (.aload_n 1, 1) := by decide +kernel
theorem dL_law_1369 : decode cL_law 1369 = .ok (.aload_n 0, 1) := by decide +kernel
theorem dL_law_1370 : decode cL_law 1370 = .ok (.iload_n 3, 1) := by decide +kernel
theorem dL_law_1371 : decode cL_law 1371 = .ok (.iconst 1, 1) := by decide +kernel
theorem dL_law_1372 : decode cL_law 1372 = .ok (.iadd, 1) := by decide +kernel
theorem dL_law_1373 : decode cL_law 1373 = .ok (.iaload, 1) := by decide +kernel
theorem dL_law_1374 : decode cL_law 1374 = .ok (.aload_n 0, 1) := by decide +kernel
theorem dL_law_1375 : decode cL_law 1375 = .ok (.iload_n 3, 1) := by decide +kernel
theorem dL_law_1376 : decode cL_law 1376 = .ok (.iconst 2, 1) := by decide +kernel
theorem dL_law_1377 : decode cL_law 1377 = .ok (.iadd, 1) := by decide +kernel
theorem dL_law_1378 : decode cL_law 1378 = .ok (.iaload, 1) := by decide +kernel
theorem dL_law_1379 : decode cL_law 1379 = .ok (.invokevirtual 167, 3) := by decide +kernel
theorem dL_law_1382 : decode cL_law 1382 = .ok (.aload_n 2, 1) := by decide +kernel
theorem dL_law_1383 : decode cL_law 1383 = .ok (.aload_n 0, 1) := by decide +kernel
theorem dL_law_1384 : decode cL_law 1384 = .ok (.iload_n 3, 1) := by decide +kernel
theorem dL_law_1385 : decode cL_law 1385 = .ok (.iconst 1, 1) := by decide +kernel
theorem dL_law_1386 : decode cL_law 1386 = .ok (.iadd, 1) := by decide +kernel
theorem dL_law_1387 : decode cL_law 1387 = .ok (.iaload, 1) := by decide +kernel
theorem dL_law_1388 : decode cL_law 1388 = .ok (.aload_n 0, 1) := by decide +kernel
theorem dL_law_1389 : decode cL_law 1389 = .ok (.iload_n 3, 1) := by decide +kernel
theorem dL_law_1390 : decode cL_law 1390 = .ok (.iconst 2, 1) := by decide +kernel
theorem dL_law_1391 : decode cL_law 1391 = .ok (.iadd, 1) := by decide +kernel
theorem dL_law_1392 : decode cL_law 1392 = .ok (.iaload, 1) := by decide +kernel
theorem dL_law_1393 : decode cL_law 1393 = .ok (.invokevirtual 170, 3) := by decide +kernel
theorem dL_law_1396 : decode cL_law 1396 = .ok (.if_icmp .eq 369, 3) := by decide +kernel
theorem dL_law_1399 : decode cL_law 1399 = .ok (.iconst 0, 1) := by decide +kernel
theorem dL_law_1400 : decode cL_law 1400 = .ok (.ireturn, 1) := by decide +kernel
theorem dL_law_1401 : decode cL_law 1401 = .ok (.aload_n 1, 1) := by decide +kernel
theorem dL_law_1402 : decode cL_law 1402 = .ok (.aload_n 0, 1) := by decide +kernel
theorem dL_law_1403 : decode cL_law 1403 = .ok (.iload_n 3, 1) := by decide +kernel
theorem dL_law_1404 : decode cL_law 1404 = .ok (.iconst 1, 1) := by decide +kernel
theorem dL_law_1405 : decode cL_law 1405 = .ok (.iadd, 1) := by decide +kernel
theorem dL_law_1406 : decode cL_law 1406 = .ok (.iaload, 1) := by decide +kernel
theorem dL_law_1407 : decode cL_law 1407 = .ok (.invokevirtual 171, 3) := by decide +kernel
theorem dL_law_1410 : decode cL_law 1410 = .ok (.aload_n 2, 1) := by decide +kernel
theorem dL_law_1411 : decode cL_law 1411 = .ok (.aload_n 0, 1) := by decide +kernel
theorem dL_law_1412 : decode cL_law 1412 = .ok (.iload_n 3, 1) := by decide +kernel
theorem dL_law_1413 : decode cL_law 1413 = .ok (.iconst 1, 1) := by decide +kernel
theorem dL_law_1414 : decode cL_law 1414 = .ok (.iadd, 1) := by decide +kernel
theorem dL_law_1415 : decode cL_law 1415 = .ok (.iaload, 1) := by decide +kernel
theorem dL_law_1416 : decode cL_law 1416 = .ok (.invokevirtual 174, 3) := by decide +kernel
theorem dL_law_1419 : decode cL_law 1419 = .ok (.if_icmp .eq 346, 3) := by decide +kernel
theorem dL_law_1422 : decode cL_law 1422 = .ok (.iconst 0, 1) := by decide +kernel
theorem dL_law_1423 : decode cL_law 1423 = .ok (.ireturn, 1) := by decide +kernel
theorem dL_law_1424 : decode cL_law 1424 = .ok (.aload_n 1, 1) := by decide +kernel
theorem dL_law_1425 : decode cL_law 1425 = .ok (.aload_n 0, 1) := by decide +kernel
theorem dL_law_1426 : decode cL_law 1426 = .ok (.iload_n 3, 1) := by decide +kernel
theorem dL_law_1427 : decode cL_law 1427 = .ok (.iconst 1, 1) := by decide +kernel
theorem dL_law_1428 : decode cL_law 1428 = .ok (.iadd, 1) := by decide +kernel
theorem dL_law_1429 : decode cL_law 1429 = .ok (.iaload, 1) := by decide +kernel
theorem dL_law_1430 : decode cL_law 1430 = .ok (.invokevirtual 175, 3) := by decide +kernel
theorem dL_law_1433 : decode cL_law 1433 = .ok (.aload_n 2, 1) := by decide +kernel
theorem dL_law_1434 : decode cL_law 1434 = .ok (.aload_n 0, 1) := by decide +kernel
theorem dL_law_1435 : decode cL_law 1435 = .ok (.iload_n 3, 1) := by decide +kernel
theorem dL_law_1436 : decode cL_law 1436 = .ok (.iconst 1, 1) := by decide +kernel
theorem dL_law_1437 : decode cL_law 1437 = .ok (.iadd, 1) := by decide +kernel
theorem dL_law_1438 : decode cL_law 1438 = .ok (.iaload, 1) := by decide +kernel
theorem dL_law_1439 : decode cL_law 1439 = .ok (.invokevirtual 178, 3) := by decide +kernel
theorem dL_law_1442 : decode cL_law 1442 = .ok (.if_icmp .eq 323, 3) := by decide +kernel
theorem dL_law_1445 : decode cL_law 1445 = .ok (.iconst 0, 1) := by decide +kernel
theorem dL_law_1446 : decode cL_law 1446 = .ok (.ireturn, 1) := by decide +kernel
theorem dL_law_1447 : decode cL_law 1447 = .ok (.aload_n 1, 1) := by decide +kernel
theorem dL_law_1448 : decode cL_law 1448 = .ok (.invokevirtual 179, 3) := by decide +kernel
theorem dL_law_1451 : decode cL_law 1451 = .ok (.aload_n 2, 1) := by decide +kernel
theorem dL_law_1452 : decode cL_law 1452 = .ok (.invokevirtual 182, 3) := by decide +kernel
theorem dL_law_1455 : decode cL_law 1455 = .ok (.if_icmp .eq 310, 3) := by decide +kernel
theorem dL_law_1458 : decode cL_law 1458 = .ok (.iconst 0, 1) := by decide +kernel
theorem dL_law_1459 : decode cL_law 1459 = .ok (.ireturn, 1) := by decide +kernel
theorem dL_law_1460 : decode cL_law 1460 = .ok (.aload_n 1, 1) := by decide +kernel
theorem dL_law_1461 : decode cL_law 1461 = .ok (.aload_n 0, 1) := by decide +kernel
theorem dL_law_1462 : decode cL_law 1462 = .ok (.iload_n 3, 1) := by decide +kernel
theorem dL_law_1463 : decode cL_law 1463 = .ok (.iconst 1, 1) := by decide +kernel
theorem dL_law_1464 : decode cL_law 1464 = .ok (.iadd, 1) := by decide +kernel
theorem dL_law_1465 : decode cL_law 1465 = .ok (.iaload, 1) := by decide +kernel
theorem dL_law_1466 : decode cL_law 1466 = .ok (.invokevirtual 183, 3) := by decide +kernel
theorem dL_law_1469 : decode cL_law 1469 = .ok (.aload_n 2, 1) := by decide +kernel
theorem dL_law_1470 : decode cL_law 1470 = .ok (.aload_n 0, 1) := by decide +kernel
theorem dL_law_1471 : decode cL_law 1471 = .ok (.iload_n 3, 1) := by decide +kernel
theorem dL_law_1472 : decode cL_law 1472 = .ok (.iconst 1, 1) := by decide +kernel
theorem dL_law_1473 : decode cL_law 1473 = .ok (.iadd, 1) := by decide +kernel
theorem dL_law_1474 : decode cL_law 1474 = .ok (.iaload, 1) := by decide +kernel
theorem dL_law_1475 : decode cL_law 1475 = .ok (.invokevirtual 186, 3) := by decide +kernel
theorem dL_law_1478 : decode cL_law 1478 = .ok (.if_icmp .eq 287, 3) := by decide +kernel
theorem dL_law_1481 : decode cL_law 1481 = .ok (.iconst 0, 1) := by decide +kernel
theorem dL_law_1482 : decode cL_law 1482 = .ok (.ireturn, 1) := by decide +kernel
theorem dL_law_1483 : decode cL_law 1483 = .ok (.aload_n 1, 1) := by decide +kernel
theorem dL_law_1484 : decode cL_law 1484 = .ok (.invokevirtual 187, 3) := by decide +kernel
theorem dL_law_1487 : decode cL_law 1487 = .ok (.aload_n 2, 1) := by decide +kernel
theorem dL_law_1488 : decode cL_law 1488 = .ok (.invokevirtual 190, 3) := by decide +kernel
theorem dL_law_1491 : decode cL_law 1491 = .ok (.if_icmp .eq 274, 3) := by decide +kernel
theorem dL_law_1494 : decode cL_law 1494 = .ok (.iconst 0, 1) := by decide +kernel
theorem dL_law_1495 : decode cL_law 1495 = .ok (.ireturn, 1) := by decide +kernel
theorem dL_law_1496 : decode cL_law 1496 = .ok (.aload_n 1, 1) := by decide +kernel
theorem dL_law_1497 : decode cL_law 1497 = .ok (.aload_n 0, 1) := by decide +kernel
theorem dL_law_1498 : decode cL_law 1498 = .ok (.iload_n 3, 1) := by decide +kernel
theorem dL_law_1499 : decode cL_law 1499 = .ok (.iconst 1, 1) := by decide +kernel
theorem dL_law_1500 : decode cL_law 1500 = .ok (.iadd, 1) := by decide +kernel
theorem dL_law_1501 : decode cL_law 1501 = .ok (.iaload, 1) := by decide +kernel
theorem dL_law_1502 : decode cL_law 1502 = .ok (.invokevirtual 191, 3) := by decide +kernel
theorem dL_law_1505 : decode cL_law 1505 = .ok (.aload_n 2, 1) := by decide +kernel
theorem dL_law_1506 : decode cL_law 1506 = .ok (.aload_n 0, 1) := by decide +kernel
theorem dL_law_1507 : decode cL_law 1507 = .ok (.iload_n 3, 1) := by decide +kernel
theorem dL_law_1508 : decode cL_law 1508 = .ok (.iconst 1, 1) := by decide +kernel
theorem dL_law_1509 : decode cL_law 1509 = .ok (.iadd, 1) := by decide +kernel
theorem dL_law_1510 : decode cL_law 1510 = .ok (.iaload, 1) := by decide +kernel
theorem dL_law_1511 : decode cL_law 1511 = .ok (.invokevirtual 194, 3) := by decide +kernel
theorem dL_law_1514 : decode cL_law 1514 = .ok (.if_icmp .eq 251, 3) := by decide +kernel
theorem dL_law_1517 : decode cL_law 1517 = .ok (.iconst 0, 1) := by decide +kernel
theorem dL_law_1518 : decode cL_law 1518 = .ok (.ireturn, 1) := by decide +kernel
theorem dL_law_1519 : decode cL_law 1519 = .ok (.aload_n 1, 1) := by decide +kernel
theorem dL_law_1520 : decode cL_law 1520 = .ok (.invokevirtual 195, 3) := by decide +kernel
theorem dL_law_1523 : decode cL_law 1523 = .ok (.aload_n 2, 1) := by decide +kernel
theorem dL_law_1524 : decode cL_law 1524 = .ok (.invokevirtual 198, 3) := by decide +kernel
theorem dL_law_1527 : decode cL_law 1527 = .ok (.if_icmp .eq 238, 3) := by decide +kernel
theorem dL_law_1530 : decode cL_law 1530 = .ok (.iconst 0, 1) := by decide +kernel
theorem dL_law_1531 : decode cL_law 1531 = .ok (.ireturn, 1) := by decide +kernel
theorem dL_law_1532 : decode cL_law 1532 = .ok (.aload_n 1, 1) := by decide +kernel
theorem dL_law_1533 : decode cL_law 1533 = .ok (.invokevirtual 199, 3) := by decide +kernel
theorem dL_law_1536 : decode cL_law 1536 = .ok (.aload_n 2, 1) := by decide +kernel
theorem dL_law_1537 : decode cL_law 1537 = .ok (.invokevirtual 202, 3) := by decide +kernel
theorem dL_law_1540 : decode cL_law 1540 = .ok (.if_icmp .eq 225, 3) := by decide +kernel
theorem dL_law_1543 : decode cL_law 1543 = .ok (.iconst 0, 1) := by decide +kernel
theorem dL_law_1544 : decode cL_law 1544 = .ok (.ireturn, 1) := by decide +kernel
theorem dL_law_1545 : decode cL_law 1545 = .ok (.aload_n 1, 1) := by decide +kernel
theorem dL_law_1546 : decode cL_law 1546 = .ok (.aload_n 0, 1) := by decide +kernel
theorem dL_law_1547 : decode cL_law 1547 = .ok (.iload_n 3, 1) := by decide +kernel
theorem dL_law_1548 : decode cL_law 1548 = .ok (.iconst 1, 1) := by decide +kernel
theorem dL_law_1549 : decode cL_law 1549 = .ok (.iadd, 1) := by decide +kernel
theorem dL_law_1550 : decode cL_law 1550 = .ok (.iaload, 1) := by decide +kernel
theorem dL_law_1551 : decode cL_law 1551 = .ok (.invokevirtual 203, 3) := by decide +kernel
theorem dL_law_1554 : decode cL_law 1554 = .ok (.aload_n 2, 1) := by decide +kernel
theorem dL_law_1555 : decode cL_law 1555 = .ok (.aload_n 0, 1) := by decide +kernel
theorem dL_law_1556 : decode cL_law 1556 = .ok (.iload_n 3, 1) := by decide +kernel
theorem dL_law_1557 : decode cL_law 1557 = .ok (.iconst 1, 1) := by decide +kernel
theorem dL_law_1558 : decode cL_law 1558 = .ok (.iadd, 1) := by decide +kernel
theorem dL_law_1559 : decode cL_law 1559 = .ok (.iaload, 1) := by decide +kernel
theorem dL_law_1560 : decode cL_law 1560 = .ok (.invokevirtual 206, 3) := by decide +kernel
theorem dL_law_1563 : decode cL_law 1563 = .ok (.if_icmp .eq 202, 3) := by decide +kernel
theorem dL_law_1566 : decode cL_law 1566 = .ok (.iconst 0, 1) := by decide +kernel
theorem dL_law_1567 : decode cL_law 1567 = .ok (.ireturn, 1) := by decide +kernel
theorem dL_law_1568 : decode cL_law 1568 = .ok (.aload_n 1, 1) := by decide +kernel
theorem dL_law_1569 : decode cL_law 1569 = .ok (.aload_n 0, 1) := by decide +kernel
theorem dL_law_1570 : decode cL_law 1570 = .ok (.iload_n 3, 1) := by decide +kernel
theorem dL_law_1571 : decode cL_law 1571 = .ok (.iconst 1, 1) := by decide +kernel
theorem dL_law_1572 : decode cL_law 1572 = .ok (.iadd, 1) := by decide +kernel
theorem dL_law_1573 : decode cL_law 1573 = .ok (.iaload, 1) := by decide +kernel
theorem dL_law_1574 : decode cL_law 1574 = .ok (.invokevirtual 207, 3) := by decide +kernel
theorem dL_law_1577 : decode cL_law 1577 = .ok (.aload_n 2, 1) := by decide +kernel
theorem dL_law_1578 : decode cL_law 1578 = .ok (.aload_n 0, 1) := by decide +kernel
theorem dL_law_1579 : decode cL_law 1579 = .ok (.iload_n 3, 1) := by decide +kernel
theorem dL_law_1580 : decode cL_law 1580 = .ok (.iconst 1, 1) := by decide +kernel
theorem dL_law_1581 : decode cL_law 1581 = .ok (.iadd, 1) := by decide +kernel
theorem dL_law_1582 : decode cL_law 1582 = .ok (.iaload, 1) := by decide +kernel
theorem dL_law_1583 : decode cL_law 1583 = .ok (.invokevirtual 210, 3) := by decide +kernel
theorem dL_law_1586 : decode cL_law 1586 = .ok (.if_icmp .eq 179, 3) := by decide +kernel
theorem dL_law_1589 : decode cL_law 1589 = .ok (.iconst 0, 1) := by decide +kernel
theorem dL_law_1590 : decode cL_law 1590 = .ok (.ireturn, 1) := by decide +kernel
theorem dL_law_1591 : decode cL_law 1591 = .ok (.aload_n 1, 1) := by decide +kernel
theorem dL_law_1592 : decode cL_law 1592 = .ok (.aload_n 0, 1) := by decide +kernel
theorem dL_law_1593 : decode cL_law 1593 = .ok (.iload_n 3, 1) := by decide +kernel
theorem dL_law_1594 : decode cL_law 1594 = .ok (.iconst 1, 1) := by decide +kernel
theorem dL_law_1595 : decode cL_law 1595 = .ok (.iadd, 1) := by decide +kernel
theorem dL_law_1596 : decode cL_law 1596 = .ok (.iaload, 1) := by decide +kernel
theorem dL_law_1597 : decode cL_law 1597 = .ok (.invokevirtual 211, 3) := by decide +kernel
theorem dL_law_1600 : decode cL_law 1600 = .ok (.aload_n 2, 1) := by decide +kernel
theorem dL_law_1601 : decode cL_law 1601 = .ok (.aload_n 0, 1) := by decide +kernel
theorem dL_law_1602 : decode cL_law 1602 = .ok (.iload_n 3, 1) := by decide +kernel
theorem dL_law_1603 : decode cL_law 1603 = .ok (.iconst 1, 1) := by decide +kernel
theorem dL_law_1604 : decode cL_law 1604 = .ok (.iadd, 1) := by decide +kernel
theorem dL_law_1605 : decode cL_law 1605 = .ok (.iaload, 1) := by decide +kernel
theorem dL_law_1606 : decode cL_law 1606 = .ok (.invokevirtual 214, 3) := by decide +kernel
theorem dL_law_1609 : decode cL_law 1609 = .ok (.if_icmp .eq 156, 3) := by decide +kernel
theorem dL_law_1612 : decode cL_law 1612 = .ok (.iconst 0, 1) := by decide +kernel
theorem dL_law_1613 : decode cL_law 1613 = .ok (.ireturn, 1) := by decide +kernel
theorem dL_law_1614 : decode cL_law 1614 = .ok (.aload_n 1, 1) := by decide +kernel
theorem dL_law_1615 : decode cL_law 1615 = .ok (.aload_n 0, 1) := by decide +kernel
theorem dL_law_1616 : decode cL_law 1616 = .ok (.iload_n 3, 1) := by decide +kernel
theorem dL_law_1617 : decode cL_law 1617 = .ok (.iconst 1, 1) := by decide +kernel
theorem dL_law_1618 : decode cL_law 1618 = .ok (.iadd, 1) := by decide +kernel
theorem dL_law_1619 : decode cL_law 1619 = .ok (.iaload, 1) := by decide +kernel
theorem dL_law_1620 : decode cL_law 1620 = .ok (.invokevirtual 215, 3) := by decide +kernel
theorem dL_law_1623 : decode cL_law 1623 = .ok (.aload_n 2, 1) := by decide +kernel
theorem dL_law_1624 : decode cL_law 1624 = .ok (.aload_n 0, 1) := by decide +kernel
theorem dL_law_1625 : decode cL_law 1625 = .ok (.iload_n 3, 1) := by decide +kernel
theorem dL_law_1626 : decode cL_law 1626 = .ok (.iconst 1, 1) := by decide +kernel
theorem dL_law_1627 : decode cL_law 1627 = .ok (.iadd, 1) := by decide +kernel
theorem dL_law_1628 : decode cL_law 1628 = .ok (.iaload, 1) := by decide +kernel
theorem dL_law_1629 : decode cL_law 1629 = .ok (.invokevirtual 219, 3) := by decide +kernel
theorem dL_law_1632 : decode cL_law 1632 = .ok (.if_icmp .eq 133, 3) := by decide +kernel
theorem dL_law_1635 : decode cL_law 1635 = .ok (.iconst 0, 1) := by decide +kernel
theorem dL_law_1636 : decode cL_law 1636 = .ok (.ireturn, 1) := by decide +kernel
theorem dL_law_1637 : decode cL_law 1637 = .ok (.aload_n 1, 1) := by decide +kernel
theorem dL_law_1638 : decode cL_law 1638 = .ok (.aload_n 0, 1) := by decide +kernel
theorem dL_law_1639 : decode cL_law 1639 = .ok (.iload_n 3, 1) := by decide +kernel
theorem dL_law_1640 : decode cL_law 1640 = .ok (.iconst 1, 1) := by decide +kernel
theorem dL_law_1641 : decode cL_law 1641 = .ok (.iadd, 1) := by decide +kernel
theorem dL_law_1642 : decode cL_law 1642 = .ok (.iaload, 1) := by decide +kernel
theorem dL_law_1643 : decode cL_law 1643 = .ok (.invokevirtual 220, 3) := by decide +kernel
theorem dL_law_1646 : decode cL_law 1646 = .ok (.aload_n 2, 1) := by decide +kernel
theorem dL_law_1647 : decode cL_law 1647 = .ok (.aload_n 0, 1) := by decide +kernel
theorem dL_law_1648 : decode cL_law 1648 = .ok (.iload_n 3, 1) := by decide +kernel
theorem dL_law_1649 : decode cL_law 1649 = .ok (.iconst 1, 1) := by decide +kernel
theorem dL_law_1650 : decode cL_law 1650 = .ok (.iadd, 1) := by decide +kernel
theorem dL_law_1651 : decode cL_law 1651 = .ok (.iaload, 1) := by decide +kernel
theorem dL_law_1652 : decode cL_law 1652 = .ok (.invokevirtual 223, 3) := by decide +kernel
theorem dL_law_1655 : decode cL_law 1655 = .ok (.if_icmp .eq 110, 3) := by decide +kernel
theorem dL_law_1658 : decode cL_law 1658 = .ok (.iconst 0, 1) := by decide +kernel
theorem dL_law_1659 : decode cL_law 1659 = .ok (.ireturn, 1) := by decide +kernel
theorem dL_law_1660 : decode cL_law 1660 = .ok (.aload_n 1, 1) := by decide +kernel
theorem dL_law_1661 : decode cL_law 1661 = .ok (.aload_n 0, 1) := by decide +kernel
theorem dL_law_1662 : decode cL_law 1662 = .ok (.iload_n 3, 1) := by decide +kernel
theorem dL_law_1663 : decode cL_law 1663 = .ok (.iconst 1, 1) := by decide +kernel
theorem dL_law_1664 : decode cL_law 1664 = .ok (.iadd, 1) := by decide +kernel
theorem dL_law_1665 : decode cL_law 1665 = .ok (.iaload, 1) := by decide +kernel
theorem dL_law_1666 : decode cL_law 1666 = .ok (.invokevirtual 224, 3) := by decide +kernel
theorem dL_law_1669 : decode cL_law 1669 = .ok (.aload_n 2, 1) := by decide +kernel
theorem dL_law_1670 : decode cL_law 1670 = .ok (.aload_n 0, 1) := by decide +kernel
theorem dL_law_1671 : decode cL_law 1671 = .ok (.iload_n 3, 1) := by decide +kernel
theorem dL_law_1672 : decode cL_law 1672 = .ok (.iconst 1, 1) := by decide +kernel
theorem dL_law_1673 : decode cL_law 1673 = .ok (.iadd, 1) := by decide +kernel
theorem dL_law_1674 : decode cL_law 1674 = .ok (.iaload, 1) := by decide +kernel
theorem dL_law_1675 : decode cL_law 1675 = .ok (.invokevirtual 227, 3) := by decide +kernel
theorem dL_law_1678 : decode cL_law 1678 = .ok (.if_icmp .eq 87, 3) := by decide +kernel
theorem dL_law_1681 : decode cL_law 1681 = .ok (.iconst 0, 1) := by decide +kernel
theorem dL_law_1682 : decode cL_law 1682 = .ok (.ireturn, 1) := by decide +kernel
theorem dL_law_1683 : decode cL_law 1683 = .ok (.aload_n 1, 1) := by decide +kernel
theorem dL_law_1684 : decode cL_law 1684 = .ok (.aload_n 0, 1) := by decide +kernel
theorem dL_law_1685 : decode cL_law 1685 = .ok (.iload_n 3, 1) := by decide +kernel
theorem dL_law_1686 : decode cL_law 1686 = .ok (.iconst 1, 1) := by decide +kernel
theorem dL_law_1687 : decode cL_law 1687 = .ok (.iadd, 1) := by decide +kernel
theorem dL_law_1688 : decode cL_law 1688 = .ok (.iaload, 1) := by decide +kernel
theorem dL_law_1689 : decode cL_law 1689 = .ok (.invokevirtual 228, 3) := by decide +kernel
theorem dL_law_1692 : decode cL_law 1692 = .ok (.aload_n 2, 1) := by decide +kernel
theorem dL_law_1693 : decode cL_law 1693 = .ok (.aload_n 0, 1) := by decide +kernel
theorem dL_law_1694 : decode cL_law 1694 = .ok (.iload_n 3, 1) := by decide +kernel
theorem dL_law_1695 : decode cL_law 1695 = .ok (.iconst 1, 1) := by decide +kernel
theorem dL_law_1696 : decode cL_law 1696 = .ok (.iadd, 1) := by decide +kernel
theorem dL_law_1697 : decode cL_law 1697 = .ok (.iaload, 1) := by decide +kernel
theorem dL_law_1698 : decode cL_law 1698 = .ok (.invokevirtual 231, 3) := by decide +kernel
theorem dL_law_1701 : decode cL_law 1701 = .ok (.if_icmp .eq 64, 3) := by decide +kernel
theorem dL_law_1704 : decode cL_law 1704 = .ok (.iconst 0, 1) := by decide +kernel
theorem dL_law_1705 : decode cL_law 1705 = .ok (.ireturn, 1) := by decide +kernel
theorem dL_law_1706 : decode cL_law 1706 = .ok (.aload_n 1, 1) := by decide +kernel
theorem dL_law_1707 : decode cL_law 1707 = .ok (.aload_n 0, 1) := by decide +kernel
theorem dL_law_1708 : decode cL_law 1708 = .ok (.iload_n 3, 1) := by decide +kernel
theorem dL_law_1709 : decode cL_law 1709 = .ok (.iconst 1, 1) := by decide +kernel
theorem dL_law_1710 : decode cL_law 1710 = .ok (.iadd, 1) := by decide +kernel
theorem dL_law_1711 : decode cL_law 1711 = .ok (.iaload, 1) := by decide +kernel
theorem dL_law_1712 : decode cL_law 1712 = .ok (.aload_n 0, 1) := by decide +kernel
theorem dL_law_1713 : decode cL_law 1713 = .ok (.iload_n 3, 1) := by decide +kernel
theorem dL_law_1714 : decode cL_law 1714 = .ok (.iconst 2, 1) := by decide +kernel
theorem dL_law_1715 : decode cL_law 1715 = .ok (.iadd, 1) := by decide +kernel
theorem dL_law_1716 : decode cL_law 1716 = .ok (.iaload, 1) := by decide +kernel
theorem dL_law_1717 : decode cL_law 1717 = .ok (.invokevirtual 232, 3) := by decide +kernel
theorem dL_law_1720 : decode cL_law 1720 = .ok (.aload_n 2, 1) := by decide +kernel
theorem dL_law_1721 : decode cL_law 1721 = .ok (.aload_n 0, 1) := by decide +kernel
theorem dL_law_1722 : decode cL_law 1722 = .ok (.iload_n 3, 1) := by decide +kernel
theorem dL_law_1723 : decode cL_law 1723 = .ok (.iconst 1, 1) := by decide +kernel
theorem dL_law_1724 : decode cL_law 1724 = .ok (.iadd, 1) := by decide +kernel
theorem dL_law_1725 : decode cL_law 1725 = .ok (.iaload, 1) := by decide +kernel
theorem dL_law_1726 : decode cL_law 1726 = .ok (.aload_n 0, 1) := by decide +kernel
theorem dL_law_1727 : decode cL_law 1727 = .ok (.iload_n 3, 1) := by decide +kernel
theorem dL_law_1728 : decode cL_law 1728 = .ok (.iconst 2, 1) := by decide +kernel
theorem dL_law_1729 : decode cL_law 1729 = .ok (.iadd, 1) := by decide +kernel
theorem dL_law_1730 : decode cL_law 1730 = .ok (.iaload, 1) := by decide +kernel
theorem dL_law_1731 : decode cL_law 1731 = .ok (.invokevirtual 235, 3) := by decide +kernel
theorem dL_law_1734 : decode cL_law 1734 = .ok (.if_icmp .eq 31, 3) := by decide +kernel
theorem dL_law_1737 : decode cL_law 1737 = .ok (.iconst 0, 1) := by decide +kernel
theorem dL_law_1738 : decode cL_law 1738 = .ok (.ireturn, 1) := by decide +kernel
theorem dL_law_1739 : decode cL_law 1739 = .ok (.aload_n 1, 1) := by decide +kernel
theorem dL_law_1740 : decode cL_law 1740 = .ok (.invokevirtual 236, 3) := by decide +kernel
theorem dL_law_1743 : decode cL_law 1743 = .ok (.aload_n 2, 1) := by decide +kernel
theorem dL_law_1744 : decode cL_law 1744 = .ok (.invokevirtual 239, 3) := by decide +kernel
theorem dL_law_1747 : decode cL_law 1747 = .ok (.if_icmp .eq 18, 3) := by decide +kernel
theorem dL_law_1750 : decode cL_law 1750 = .ok (.iconst 0, 1) := by decide +kernel
theorem dL_law_1751 : decode cL_law 1751 = .ok (.ireturn, 1) := by decide +kernel
theorem dL_law_1752 : decode cL_law 1752 = .ok (.aload_n 1, 1) := by decide +kernel
theorem dL_law_1753 : decode cL_law 1753 = .ok (.invokevirtual 240, 3) := by decide +kernel
theorem dL_law_1756 : decode cL_law 1756 = .ok (.aload_n 2, 1) := by decide +kernel
theorem dL_law_1757 : decode cL_law 1757 = .ok (.invokevirtual 243, 3) := by decide +kernel
theorem dL_law_1760 : decode cL_law 1760 = .ok (.if_icmp .eq 5, 3) := by decide +kernel
theorem dL_law_1763 : decode cL_law 1763 = .ok (.iconst 0, 1) := by decide +kernel
theorem dL_law_1764 : decode cL_law 1764 = .ok (.ireturn, 1) := by decide +kernel
theorem dL_law_1765 : decode cL_law 1765 = .ok (.iinc 3 6, 3) := by decide +kernel
theorem dL_law_1768 : decode cL_law 1768 = .ok (.goto (-1750), 3) := by decide +kernel
theorem dL_law_1771 : decode cL_law 1771 = .ok (.iconst 1, 1) := by decide +kernel
theorem dL_law_1772 : decode cL_law 1772 = .ok (.ireturn, 1) := by decide +kernel
def L_L_law (w : Nat) (L : Nat) (xs : Nat → Int32) : Nat → z_Mem → Int32 → Option (Bool × z_Mem)
  | 0, _, _ => none
  | c + 1, M, x3 =>
    if ((Int32.ofNat L) - (6 : Int32)) < x3 then
    some (true, M)
    else
    if x3 < 0 ∨ L ≤ x3.toNatClampNeg then none else
    if ((xs x3.toNatClampNeg) &&& (63 : Int32)) = (0 : Int32) then
    (F_X11_status w M).bind fun q4 =>
    (F_X12_status w q4.2).bind fun q6 =>
    if q4.1 = q6.1 then
    L_L_law w L xs c q6.2 (x3 + (6 : Int32))
    else
    some (false, q6.2)
    else
    if ((xs x3.toNatClampNeg) &&& (63 : Int32)) = (1 : Int32) then
    (F_X11_top w M).bind fun q10 =>
    (F_X12_top w q10.2).bind fun q12 =>
    if (lg_cmp q10.1 q12.1) = (0 : Int32) then
    L_L_law w L xs c q12.2 (x3 + (6 : Int32))
    else
    some (false, q12.2)
    else
    if ((xs x3.toNatClampNeg) &&& (63 : Int32)) = (2 : Int32) then
    (F_X11_bottom w M).bind fun q16 =>
    (F_X12_bottom w q16.2).bind fun q18 =>
    if (lg_cmp q16.1 q18.1) = (0 : Int32) then
    L_L_law w L xs c q18.2 (x3 + (6 : Int32))
    else
    some (false, q18.2)
    else
    if ((xs x3.toNatClampNeg) &&& (63 : Int32)) = (3 : Int32) then
    if (x3 + (1 : Int32)) < 0 ∨ L ≤ (x3 + (1 : Int32)).toNatClampNeg then none else
    if (x3 + (2 : Int32)) < 0 ∨ L ≤ (x3 + (2 : Int32)).toNatClampNeg then none else
    if (x3 + (3 : Int32)) < 0 ∨ L ≤ (x3 + (3 : Int32)).toNatClampNeg then none else
    (F_X11_tray w M (xs (x3 + (1 : Int32)).toNatClampNeg) (xs (x3 + (2 : Int32)).toNatClampNeg) (xs (x3 + (3 : Int32)).toNatClampNeg)).bind fun q25 =>
    if (x3 + (1 : Int32)) < 0 ∨ L ≤ (x3 + (1 : Int32)).toNatClampNeg then none else
    if (x3 + (2 : Int32)) < 0 ∨ L ≤ (x3 + (2 : Int32)).toNatClampNeg then none else
    if (x3 + (3 : Int32)) < 0 ∨ L ≤ (x3 + (3 : Int32)).toNatClampNeg then none else
    (F_X12_tray w q25.2 (xs (x3 + (1 : Int32)).toNatClampNeg) (xs (x3 + (2 : Int32)).toNatClampNeg) (xs (x3 + (3 : Int32)).toNatClampNeg)).bind fun q30 =>
    if (z_tb q25.1) = (z_tb q30.1) then
    L_L_law w L xs c q30.2 (x3 + (6 : Int32))
    else
    some (false, q30.2)
    else
    if ((xs x3.toNatClampNeg) &&& (63 : Int32)) = (4 : Int32) then
    if (x3 + (1 : Int32)) < 0 ∨ L ≤ (x3 + (1 : Int32)).toNatClampNeg then none else
    if (x3 + (2 : Int32)) < 0 ∨ L ≤ (x3 + (2 : Int32)).toNatClampNeg then none else
    if (x3 + (3 : Int32)) < 0 ∨ L ≤ (x3 + (3 : Int32)).toNatClampNeg then none else
    if (x3 + (4 : Int32)) < 0 ∨ L ≤ (x3 + (4 : Int32)).toNatClampNeg then none else
    (F_X11_write w M (xs (x3 + (1 : Int32)).toNatClampNeg) (xs (x3 + (2 : Int32)).toNatClampNeg) ((((xs (x3 + (3 : Int32)).toNatClampNeg).toInt64) <<< ((32 : Int32).toInt64 &&& 63)) ||| (((xs (x3 + (4 : Int32)).toNatClampNeg).toInt64) &&& (4294967295 : Int64)))).bind fun q38 =>
    if (x3 + (1 : Int32)) < 0 ∨ L ≤ (x3 + (1 : Int32)).toNatClampNeg then none else
    if (x3 + (2 : Int32)) < 0 ∨ L ≤ (x3 + (2 : Int32)).toNatClampNeg then none else
    if (x3 + (3 : Int32)) < 0 ∨ L ≤ (x3 + (3 : Int32)).toNatClampNeg then none else
    if (x3 + (4 : Int32)) < 0 ∨ L ≤ (x3 + (4 : Int32)).toNatClampNeg then none else
    (F_X12_write w q38.2 (xs (x3 + (1 : Int32)).toNatClampNeg) (xs (x3 + (2 : Int32)).toNatClampNeg) ((((xs (x3 + (3 : Int32)).toNatClampNeg).toInt64) <<< ((32 : Int32).toInt64 &&& 63)) ||| (((xs (x3 + (4 : Int32)).toNatClampNeg).toInt64) &&& (4294967295 : Int64)))).bind fun q44 =>
    if (z_tb q38.1) = (z_tb q44.1) then
    L_L_law w L xs c q44.2 (x3 + (6 : Int32))
    else
    some (false, q44.2)
    else
    if ((xs x3.toNatClampNeg) &&& (63 : Int32)) = (5 : Int32) then
    if (x3 + (1 : Int32)) < 0 ∨ L ≤ (x3 + (1 : Int32)).toNatClampNeg then none else
    if (x3 + (2 : Int32)) < 0 ∨ L ≤ (x3 + (2 : Int32)).toNatClampNeg then none else
    (F_X11_read w M (xs (x3 + (1 : Int32)).toNatClampNeg) (xs (x3 + (2 : Int32)).toNatClampNeg)).bind fun q50 =>
    if (x3 + (1 : Int32)) < 0 ∨ L ≤ (x3 + (1 : Int32)).toNatClampNeg then none else
    if (x3 + (2 : Int32)) < 0 ∨ L ≤ (x3 + (2 : Int32)).toNatClampNeg then none else
    (F_X12_read w q50.2 (xs (x3 + (1 : Int32)).toNatClampNeg) (xs (x3 + (2 : Int32)).toNatClampNeg)).bind fun q54 =>
    if (lg_cmp q50.1 q54.1) = (0 : Int32) then
    L_L_law w L xs c q54.2 (x3 + (6 : Int32))
    else
    some (false, q54.2)
    else
    if ((xs x3.toNatClampNeg) &&& (63 : Int32)) = (6 : Int32) then
    if (x3 + (1 : Int32)) < 0 ∨ L ≤ (x3 + (1 : Int32)).toNatClampNeg then none else
    if (x3 + (2 : Int32)) < 0 ∨ L ≤ (x3 + (2 : Int32)).toNatClampNeg then none else
    if (x3 + (3 : Int32)) < 0 ∨ L ≤ (x3 + (3 : Int32)).toNatClampNeg then none else
    if (x3 + (4 : Int32)) < 0 ∨ L ≤ (x3 + (4 : Int32)).toNatClampNeg then none else
    if (x3 + (5 : Int32)) < 0 ∨ L ≤ (x3 + (5 : Int32)).toNatClampNeg then none else
    (F_X11_pour w M (xs (x3 + (1 : Int32)).toNatClampNeg) (xs (x3 + (2 : Int32)).toNatClampNeg) (xs (x3 + (3 : Int32)).toNatClampNeg) (xs (x3 + (4 : Int32)).toNatClampNeg) (xs (x3 + (5 : Int32)).toNatClampNeg)).bind fun q63 =>
    if (x3 + (1 : Int32)) < 0 ∨ L ≤ (x3 + (1 : Int32)).toNatClampNeg then none else
    if (x3 + (2 : Int32)) < 0 ∨ L ≤ (x3 + (2 : Int32)).toNatClampNeg then none else
    if (x3 + (3 : Int32)) < 0 ∨ L ≤ (x3 + (3 : Int32)).toNatClampNeg then none else
    if (x3 + (4 : Int32)) < 0 ∨ L ≤ (x3 + (4 : Int32)).toNatClampNeg then none else
    if (x3 + (5 : Int32)) < 0 ∨ L ≤ (x3 + (5 : Int32)).toNatClampNeg then none else
    (F_X12_pour w q63.2 (xs (x3 + (1 : Int32)).toNatClampNeg) (xs (x3 + (2 : Int32)).toNatClampNeg) (xs (x3 + (3 : Int32)).toNatClampNeg) (xs (x3 + (4 : Int32)).toNatClampNeg) (xs (x3 + (5 : Int32)).toNatClampNeg)).bind fun q70 =>
    if (z_tb q63.1) = (z_tb q70.1) then
    L_L_law w L xs c q70.2 (x3 + (6 : Int32))
    else
    some (false, q70.2)
    else
    if ((xs x3.toNatClampNeg) &&& (63 : Int32)) = (7 : Int32) then
    if (x3 + (1 : Int32)) < 0 ∨ L ≤ (x3 + (1 : Int32)).toNatClampNeg then none else
    if (x3 + (2 : Int32)) < 0 ∨ L ≤ (x3 + (2 : Int32)).toNatClampNeg then none else
    if (x3 + (3 : Int32)) < 0 ∨ L ≤ (x3 + (3 : Int32)).toNatClampNeg then none else
    if (x3 + (4 : Int32)) < 0 ∨ L ≤ (x3 + (4 : Int32)).toNatClampNeg then none else
    if (x3 + (5 : Int32)) < 0 ∨ L ≤ (x3 + (5 : Int32)).toNatClampNeg then none else
    (F_X11_feed w M (xs (x3 + (1 : Int32)).toNatClampNeg) (xs (x3 + (2 : Int32)).toNatClampNeg) (xs (x3 + (3 : Int32)).toNatClampNeg) (xs (x3 + (4 : Int32)).toNatClampNeg) (xs (x3 + (5 : Int32)).toNatClampNeg)).bind fun q79 =>
    if (x3 + (1 : Int32)) < 0 ∨ L ≤ (x3 + (1 : Int32)).toNatClampNeg then none else
    if (x3 + (2 : Int32)) < 0 ∨ L ≤ (x3 + (2 : Int32)).toNatClampNeg then none else
    if (x3 + (3 : Int32)) < 0 ∨ L ≤ (x3 + (3 : Int32)).toNatClampNeg then none else
    if (x3 + (4 : Int32)) < 0 ∨ L ≤ (x3 + (4 : Int32)).toNatClampNeg then none else
    if (x3 + (5 : Int32)) < 0 ∨ L ≤ (x3 + (5 : Int32)).toNatClampNeg then none else
    (F_X12_feed w q79.2 (xs (x3 + (1 : Int32)).toNatClampNeg) (xs (x3 + (2 : Int32)).toNatClampNeg) (xs (x3 + (3 : Int32)).toNatClampNeg) (xs (x3 + (4 : Int32)).toNatClampNeg) (xs (x3 + (5 : Int32)).toNatClampNeg)).bind fun q86 =>
    if q79.1 = q86.1 then
    L_L_law w L xs c q86.2 (x3 + (6 : Int32))
    else
    some (false, q86.2)
    else
    if ((xs x3.toNatClampNeg) &&& (63 : Int32)) = (8 : Int32) then
    if (x3 + (1 : Int32)) < 0 ∨ L ≤ (x3 + (1 : Int32)).toNatClampNeg then none else
    (F_X11_parish w M (xs (x3 + (1 : Int32)).toNatClampNeg)).bind fun q91 =>
    if (x3 + (1 : Int32)) < 0 ∨ L ≤ (x3 + (1 : Int32)).toNatClampNeg then none else
    (F_X12_parish w q91.2 (xs (x3 + (1 : Int32)).toNatClampNeg)).bind fun q94 =>
    if q91.1 = q94.1 then
    L_L_law w L xs c q94.2 (x3 + (6 : Int32))
    else
    some (false, q94.2)
    else
    if ((xs x3.toNatClampNeg) &&& (63 : Int32)) = (9 : Int32) then
    if (x3 + (1 : Int32)) < 0 ∨ L ≤ (x3 + (1 : Int32)).toNatClampNeg then none else
    (F_X11_years w M (xs (x3 + (1 : Int32)).toNatClampNeg)).bind fun q99 =>
    if (x3 + (1 : Int32)) < 0 ∨ L ≤ (x3 + (1 : Int32)).toNatClampNeg then none else
    (F_X12_years w q99.2 (xs (x3 + (1 : Int32)).toNatClampNeg)).bind fun q102 =>
    if q99.1 = q102.1 then
    L_L_law w L xs c q102.2 (x3 + (6 : Int32))
    else
    some (false, q102.2)
    else
    if ((xs x3.toNatClampNeg) &&& (63 : Int32)) = (10 : Int32) then
    if (x3 + (1 : Int32)) < 0 ∨ L ≤ (x3 + (1 : Int32)).toNatClampNeg then none else
    (F_X11_fault w M (xs (x3 + (1 : Int32)).toNatClampNeg)).bind fun q107 =>
    if (x3 + (1 : Int32)) < 0 ∨ L ≤ (x3 + (1 : Int32)).toNatClampNeg then none else
    (F_X12_fault w q107.2 (xs (x3 + (1 : Int32)).toNatClampNeg)).bind fun q110 =>
    if q107.1 = q110.1 then
    L_L_law w L xs c q110.2 (x3 + (6 : Int32))
    else
    some (false, q110.2)
    else
    if ((xs x3.toNatClampNeg) &&& (63 : Int32)) = (11 : Int32) then
    if (x3 + (1 : Int32)) < 0 ∨ L ≤ (x3 + (1 : Int32)).toNatClampNeg then none else
    (F_X11_many w M (xs (x3 + (1 : Int32)).toNatClampNeg)).bind fun q115 =>
    if (x3 + (1 : Int32)) < 0 ∨ L ≤ (x3 + (1 : Int32)).toNatClampNeg then none else
    (F_X12_many w q115.2 (xs (x3 + (1 : Int32)).toNatClampNeg)).bind fun q118 =>
    if q115.1 = q118.1 then
    L_L_law w L xs c q118.2 (x3 + (6 : Int32))
    else
    some (false, q118.2)
    else
    if ((xs x3.toNatClampNeg) &&& (63 : Int32)) = (12 : Int32) then
    if (x3 + (1 : Int32)) < 0 ∨ L ≤ (x3 + (1 : Int32)).toNatClampNeg then none else
    (F_X11_chest w M (xs (x3 + (1 : Int32)).toNatClampNeg)).bind fun q123 =>
    if (x3 + (1 : Int32)) < 0 ∨ L ≤ (x3 + (1 : Int32)).toNatClampNeg then none else
    (F_X12_chest w q123.2 (xs (x3 + (1 : Int32)).toNatClampNeg)).bind fun q126 =>
    if q123.1 = q126.1 then
    L_L_law w L xs c q126.2 (x3 + (6 : Int32))
    else
    some (false, q126.2)
    else
    if ((xs x3.toNatClampNeg) &&& (63 : Int32)) = (13 : Int32) then
    if (x3 + (1 : Int32)) < 0 ∨ L ≤ (x3 + (1 : Int32)).toNatClampNeg then none else
    if (x3 + (2 : Int32)) < 0 ∨ L ≤ (x3 + (2 : Int32)).toNatClampNeg then none else
    (F_X11_right w M (xs (x3 + (1 : Int32)).toNatClampNeg) (xs (x3 + (2 : Int32)).toNatClampNeg)).bind fun q132 =>
    if (x3 + (1 : Int32)) < 0 ∨ L ≤ (x3 + (1 : Int32)).toNatClampNeg then none else
    if (x3 + (2 : Int32)) < 0 ∨ L ≤ (x3 + (2 : Int32)).toNatClampNeg then none else
    (F_X12_right w q132.2 (xs (x3 + (1 : Int32)).toNatClampNeg) (xs (x3 + (2 : Int32)).toNatClampNeg)).bind fun q136 =>
    if q132.1 = q136.1 then
    L_L_law w L xs c q136.2 (x3 + (6 : Int32))
    else
    some (false, q136.2)
    else
    if ((xs x3.toNatClampNeg) &&& (63 : Int32)) = (14 : Int32) then
    if (x3 + (1 : Int32)) < 0 ∨ L ≤ (x3 + (1 : Int32)).toNatClampNeg then none else
    if (x3 + (2 : Int32)) < 0 ∨ L ≤ (x3 + (2 : Int32)).toNatClampNeg then none else
    (F_X11_debt w M (xs (x3 + (1 : Int32)).toNatClampNeg) (xs (x3 + (2 : Int32)).toNatClampNeg)).bind fun q142 =>
    if (x3 + (1 : Int32)) < 0 ∨ L ≤ (x3 + (1 : Int32)).toNatClampNeg then none else
    if (x3 + (2 : Int32)) < 0 ∨ L ≤ (x3 + (2 : Int32)).toNatClampNeg then none else
    (F_X12_debt w q142.2 (xs (x3 + (1 : Int32)).toNatClampNeg) (xs (x3 + (2 : Int32)).toNatClampNeg)).bind fun q146 =>
    if q142.1 = q146.1 then
    L_L_law w L xs c q146.2 (x3 + (6 : Int32))
    else
    some (false, q146.2)
    else
    if ((xs x3.toNatClampNeg) &&& (63 : Int32)) = (15 : Int32) then
    if (x3 + (1 : Int32)) < 0 ∨ L ≤ (x3 + (1 : Int32)).toNatClampNeg then none else
    (F_X11_owes w M (xs (x3 + (1 : Int32)).toNatClampNeg)).bind fun q151 =>
    if (x3 + (1 : Int32)) < 0 ∨ L ≤ (x3 + (1 : Int32)).toNatClampNeg then none else
    (F_X12_owes w q151.2 (xs (x3 + (1 : Int32)).toNatClampNeg)).bind fun q154 =>
    if q151.1 = q154.1 then
    L_L_law w L xs c q154.2 (x3 + (6 : Int32))
    else
    some (false, q154.2)
    else
    if ((xs x3.toNatClampNeg) &&& (63 : Int32)) = (16 : Int32) then
    if (x3 + (1 : Int32)) < 0 ∨ L ≤ (x3 + (1 : Int32)).toNatClampNeg then none else
    (F_X11_layAgo w M (xs (x3 + (1 : Int32)).toNatClampNeg)).bind fun q159 =>
    if (x3 + (1 : Int32)) < 0 ∨ L ≤ (x3 + (1 : Int32)).toNatClampNeg then none else
    (F_X12_layAgo w q159.2 (xs (x3 + (1 : Int32)).toNatClampNeg)).bind fun q162 =>
    if q159.1 = q162.1 then
    L_L_law w L xs c q162.2 (x3 + (6 : Int32))
    else
    some (false, q162.2)
    else
    if ((xs x3.toNatClampNeg) &&& (63 : Int32)) = (17 : Int32) then
    if (x3 + (1 : Int32)) < 0 ∨ L ≤ (x3 + (1 : Int32)).toNatClampNeg then none else
    if (x3 + (2 : Int32)) < 0 ∨ L ≤ (x3 + (2 : Int32)).toNatClampNeg then none else
    (F_X11_clause w M (xs (x3 + (1 : Int32)).toNatClampNeg) (xs (x3 + (2 : Int32)).toNatClampNeg)).bind fun q168 =>
    if (x3 + (1 : Int32)) < 0 ∨ L ≤ (x3 + (1 : Int32)).toNatClampNeg then none else
    if (x3 + (2 : Int32)) < 0 ∨ L ≤ (x3 + (2 : Int32)).toNatClampNeg then none else
    (F_X12_clause w q168.2 (xs (x3 + (1 : Int32)).toNatClampNeg) (xs (x3 + (2 : Int32)).toNatClampNeg)).bind fun q172 =>
    if q168.1 = q172.1 then
    L_L_law w L xs c q172.2 (x3 + (6 : Int32))
    else
    some (false, q172.2)
    else
    if ((xs x3.toNatClampNeg) &&& (63 : Int32)) = (18 : Int32) then
    if (x3 + (1 : Int32)) < 0 ∨ L ≤ (x3 + (1 : Int32)).toNatClampNeg then none else
    if (x3 + (2 : Int32)) < 0 ∨ L ≤ (x3 + (2 : Int32)).toNatClampNeg then none else
    (F_X11_witness w M (xs (x3 + (1 : Int32)).toNatClampNeg) (xs (x3 + (2 : Int32)).toNatClampNeg)).bind fun q178 =>
    if (x3 + (1 : Int32)) < 0 ∨ L ≤ (x3 + (1 : Int32)).toNatClampNeg then none else
    if (x3 + (2 : Int32)) < 0 ∨ L ≤ (x3 + (2 : Int32)).toNatClampNeg then none else
    (F_X12_witness w q178.2 (xs (x3 + (1 : Int32)).toNatClampNeg) (xs (x3 + (2 : Int32)).toNatClampNeg)).bind fun q182 =>
    if q178.1 = q182.1 then
    L_L_law w L xs c q182.2 (x3 + (6 : Int32))
    else
    some (false, q182.2)
    else
    if ((xs x3.toNatClampNeg) &&& (63 : Int32)) = (19 : Int32) then
    if (x3 + (1 : Int32)) < 0 ∨ L ≤ (x3 + (1 : Int32)).toNatClampNeg then none else
    (F_X11_copyWorth w M (xs (x3 + (1 : Int32)).toNatClampNeg)).bind fun q187 =>
    if (x3 + (1 : Int32)) < 0 ∨ L ≤ (x3 + (1 : Int32)).toNatClampNeg then none else
    (F_X12_copyWorth w q187.2 (xs (x3 + (1 : Int32)).toNatClampNeg)).bind fun q190 =>
    if q187.1 = q190.1 then
    L_L_law w L xs c q190.2 (x3 + (6 : Int32))
    else
    some (false, q190.2)
    else
    if ((xs x3.toNatClampNeg) &&& (63 : Int32)) = (20 : Int32) then
    if (x3 + (1 : Int32)) < 0 ∨ L ≤ (x3 + (1 : Int32)).toNatClampNeg then none else
    (F_X11_month w M (xs (x3 + (1 : Int32)).toNatClampNeg)).bind fun q195 =>
    if (x3 + (1 : Int32)) < 0 ∨ L ≤ (x3 + (1 : Int32)).toNatClampNeg then none else
    (F_X12_month w q195.2 (xs (x3 + (1 : Int32)).toNatClampNeg)).bind fun q198 =>
    if q195.1 = q198.1 then
    L_L_law w L xs c q198.2 (x3 + (6 : Int32))
    else
    some (false, q198.2)
    else
    if ((xs x3.toNatClampNeg) &&& (63 : Int32)) = (21 : Int32) then
    if (x3 + (1 : Int32)) < 0 ∨ L ≤ (x3 + (1 : Int32)).toNatClampNeg then none else
    if (x3 + (2 : Int32)) < 0 ∨ L ≤ (x3 + (2 : Int32)).toNatClampNeg then none else
    (F_X11_carry w M (xs (x3 + (1 : Int32)).toNatClampNeg) (xs (x3 + (2 : Int32)).toNatClampNeg)).bind fun q204 =>
    if (x3 + (1 : Int32)) < 0 ∨ L ≤ (x3 + (1 : Int32)).toNatClampNeg then none else
    if (x3 + (2 : Int32)) < 0 ∨ L ≤ (x3 + (2 : Int32)).toNatClampNeg then none else
    (F_X12_carry w q204.2 (xs (x3 + (1 : Int32)).toNatClampNeg) (xs (x3 + (2 : Int32)).toNatClampNeg)).bind fun q208 =>
    if q204.1 = q208.1 then
    L_L_law w L xs c q208.2 (x3 + (6 : Int32))
    else
    some (false, q208.2)
    else
    if ((xs x3.toNatClampNeg) &&& (63 : Int32)) = (22 : Int32) then
    if (x3 + (1 : Int32)) < 0 ∨ L ≤ (x3 + (1 : Int32)).toNatClampNeg then none else
    if (x3 + (2 : Int32)) < 0 ∨ L ≤ (x3 + (2 : Int32)).toNatClampNeg then none else
    if (x3 + (3 : Int32)) < 0 ∨ L ≤ (x3 + (3 : Int32)).toNatClampNeg then none else
    (F_X11_swear w M (xs (x3 + (1 : Int32)).toNatClampNeg) (xs (x3 + (2 : Int32)).toNatClampNeg) (xs (x3 + (3 : Int32)).toNatClampNeg)).bind fun q215 =>
    if (x3 + (1 : Int32)) < 0 ∨ L ≤ (x3 + (1 : Int32)).toNatClampNeg then none else
    if (x3 + (2 : Int32)) < 0 ∨ L ≤ (x3 + (2 : Int32)).toNatClampNeg then none else
    if (x3 + (3 : Int32)) < 0 ∨ L ≤ (x3 + (3 : Int32)).toNatClampNeg then none else
    (F_X12_swear w q215.2 (xs (x3 + (1 : Int32)).toNatClampNeg) (xs (x3 + (2 : Int32)).toNatClampNeg) (xs (x3 + (3 : Int32)).toNatClampNeg)).bind fun q220 =>
    if q215.1 = q220.1 then
    L_L_law w L xs c q220.2 (x3 + (6 : Int32))
    else
    some (false, q220.2)
    else
    if ((xs x3.toNatClampNeg) &&& (63 : Int32)) = (23 : Int32) then
    if (x3 + (1 : Int32)) < 0 ∨ L ≤ (x3 + (1 : Int32)).toNatClampNeg then none else
    (F_X11_pay w M (xs (x3 + (1 : Int32)).toNatClampNeg)).bind fun q225 =>
    if (x3 + (1 : Int32)) < 0 ∨ L ≤ (x3 + (1 : Int32)).toNatClampNeg then none else
    (F_X12_pay w q225.2 (xs (x3 + (1 : Int32)).toNatClampNeg)).bind fun q228 =>
    if q225.1 = q228.1 then
    L_L_law w L xs c q228.2 (x3 + (6 : Int32))
    else
    some (false, q228.2)
    else
    if ((xs x3.toNatClampNeg) &&& (63 : Int32)) = (24 : Int32) then
    if (x3 + (1 : Int32)) < 0 ∨ L ≤ (x3 + (1 : Int32)).toNatClampNeg then none else
    if (x3 + (2 : Int32)) < 0 ∨ L ≤ (x3 + (2 : Int32)).toNatClampNeg then none else
    (F_X11_price w M (xs (x3 + (1 : Int32)).toNatClampNeg) (xs (x3 + (2 : Int32)).toNatClampNeg)).bind fun q234 =>
    if (x3 + (1 : Int32)) < 0 ∨ L ≤ (x3 + (1 : Int32)).toNatClampNeg then none else
    if (x3 + (2 : Int32)) < 0 ∨ L ≤ (x3 + (2 : Int32)).toNatClampNeg then none else
    (F_X12_price w q234.2 (xs (x3 + (1 : Int32)).toNatClampNeg) (xs (x3 + (2 : Int32)).toNatClampNeg)).bind fun q238 =>
    if q234.1 = q238.1 then
    L_L_law w L xs c q238.2 (x3 + (6 : Int32))
    else
    some (false, q238.2)
    else
    if ((xs x3.toNatClampNeg) &&& (63 : Int32)) = (25 : Int32) then
    if (x3 + (1 : Int32)) < 0 ∨ L ≤ (x3 + (1 : Int32)).toNatClampNeg then none else
    if (x3 + (2 : Int32)) < 0 ∨ L ≤ (x3 + (2 : Int32)).toNatClampNeg then none else
    if (x3 + (3 : Int32)) < 0 ∨ L ≤ (x3 + (3 : Int32)).toNatClampNeg then none else
    if (xs (x3 + (3 : Int32)).toNatClampNeg) = (0 : Int32) then
    (F_X11_grant w M (xs (x3 + (1 : Int32)).toNatClampNeg) (xs (x3 + (2 : Int32)).toNatClampNeg) (0 : Int32)).bind fun q246 =>
    if (x3 + (1 : Int32)) < 0 ∨ L ≤ (x3 + (1 : Int32)).toNatClampNeg then none else
    if (x3 + (2 : Int32)) < 0 ∨ L ≤ (x3 + (2 : Int32)).toNatClampNeg then none else
    if (x3 + (3 : Int32)) < 0 ∨ L ≤ (x3 + (3 : Int32)).toNatClampNeg then none else
    if (xs (x3 + (3 : Int32)).toNatClampNeg) = (0 : Int32) then
    (F_X12_grant w q246.2 (xs (x3 + (1 : Int32)).toNatClampNeg) (xs (x3 + (2 : Int32)).toNatClampNeg) (0 : Int32)).bind fun q252 =>
    if (z_tb q246.1) = (z_tb q252.1) then
    L_L_law w L xs c q252.2 (x3 + (6 : Int32))
    else
    some (false, q252.2)
    else
    (F_X12_grant w q246.2 (xs (x3 + (1 : Int32)).toNatClampNeg) (xs (x3 + (2 : Int32)).toNatClampNeg) (1 : Int32)).bind fun q255 =>
    if (z_tb q246.1) = (z_tb q255.1) then
    L_L_law w L xs c q255.2 (x3 + (6 : Int32))
    else
    some (false, q255.2)
    else
    (F_X11_grant w M (xs (x3 + (1 : Int32)).toNatClampNeg) (xs (x3 + (2 : Int32)).toNatClampNeg) (1 : Int32)).bind fun q258 =>
    if (x3 + (1 : Int32)) < 0 ∨ L ≤ (x3 + (1 : Int32)).toNatClampNeg then none else
    if (x3 + (2 : Int32)) < 0 ∨ L ≤ (x3 + (2 : Int32)).toNatClampNeg then none else
    if (x3 + (3 : Int32)) < 0 ∨ L ≤ (x3 + (3 : Int32)).toNatClampNeg then none else
    if (xs (x3 + (3 : Int32)).toNatClampNeg) = (0 : Int32) then
    (F_X12_grant w q258.2 (xs (x3 + (1 : Int32)).toNatClampNeg) (xs (x3 + (2 : Int32)).toNatClampNeg) (0 : Int32)).bind fun q264 =>
    if (z_tb q258.1) = (z_tb q264.1) then
    L_L_law w L xs c q264.2 (x3 + (6 : Int32))
    else
    some (false, q264.2)
    else
    (F_X12_grant w q258.2 (xs (x3 + (1 : Int32)).toNatClampNeg) (xs (x3 + (2 : Int32)).toNatClampNeg) (1 : Int32)).bind fun q267 =>
    if (z_tb q258.1) = (z_tb q267.1) then
    L_L_law w L xs c q267.2 (x3 + (6 : Int32))
    else
    some (false, q267.2)
    else
    if ((xs x3.toNatClampNeg) &&& (63 : Int32)) = (26 : Int32) then
    if (x3 + (1 : Int32)) < 0 ∨ L ≤ (x3 + (1 : Int32)).toNatClampNeg then none else
    if (x3 + (2 : Int32)) < 0 ∨ L ≤ (x3 + (2 : Int32)).toNatClampNeg then none else
    if (x3 + (3 : Int32)) < 0 ∨ L ≤ (x3 + (3 : Int32)).toNatClampNeg then none else
    if (x3 + (4 : Int32)) < 0 ∨ L ≤ (x3 + (4 : Int32)).toNatClampNeg then none else
    if (x3 + (5 : Int32)) < 0 ∨ L ≤ (x3 + (5 : Int32)).toNatClampNeg then none else
    (F_X11_claim w M (xs (x3 + (1 : Int32)).toNatClampNeg) (xs (x3 + (2 : Int32)).toNatClampNeg) (xs (x3 + (3 : Int32)).toNatClampNeg) (xs (x3 + (4 : Int32)).toNatClampNeg) (xs (x3 + (5 : Int32)).toNatClampNeg)).bind fun q276 =>
    if (x3 + (1 : Int32)) < 0 ∨ L ≤ (x3 + (1 : Int32)).toNatClampNeg then none else
    if (x3 + (2 : Int32)) < 0 ∨ L ≤ (x3 + (2 : Int32)).toNatClampNeg then none else
    if (x3 + (3 : Int32)) < 0 ∨ L ≤ (x3 + (3 : Int32)).toNatClampNeg then none else
    if (x3 + (4 : Int32)) < 0 ∨ L ≤ (x3 + (4 : Int32)).toNatClampNeg then none else
    if (x3 + (5 : Int32)) < 0 ∨ L ≤ (x3 + (5 : Int32)).toNatClampNeg then none else
    (F_X12_claim w q276.2 (xs (x3 + (1 : Int32)).toNatClampNeg) (xs (x3 + (2 : Int32)).toNatClampNeg) (xs (x3 + (3 : Int32)).toNatClampNeg) (xs (x3 + (4 : Int32)).toNatClampNeg) (xs (x3 + (5 : Int32)).toNatClampNeg)).bind fun q283 =>
    if q276.1 = q283.1 then
    L_L_law w L xs c q283.2 (x3 + (6 : Int32))
    else
    some (false, q283.2)
    else
    if ((xs x3.toNatClampNeg) &&& (63 : Int32)) = (27 : Int32) then
    if (x3 + (1 : Int32)) < 0 ∨ L ≤ (x3 + (1 : Int32)).toNatClampNeg then none else
    if (x3 + (2 : Int32)) < 0 ∨ L ≤ (x3 + (2 : Int32)).toNatClampNeg then none else
    (F_X11_rule w M (xs (x3 + (1 : Int32)).toNatClampNeg) (xs (x3 + (2 : Int32)).toNatClampNeg)).bind fun q289 =>
    if (x3 + (1 : Int32)) < 0 ∨ L ≤ (x3 + (1 : Int32)).toNatClampNeg then none else
    if (x3 + (2 : Int32)) < 0 ∨ L ≤ (x3 + (2 : Int32)).toNatClampNeg then none else
    (F_X12_rule w q289.2 (xs (x3 + (1 : Int32)).toNatClampNeg) (xs (x3 + (2 : Int32)).toNatClampNeg)).bind fun q293 =>
    if (z_tb q289.1) = (z_tb q293.1) then
    L_L_law w L xs c q293.2 (x3 + (6 : Int32))
    else
    some (false, q293.2)
    else
    if ((xs x3.toNatClampNeg) &&& (63 : Int32)) = (28 : Int32) then
    if (x3 + (1 : Int32)) < 0 ∨ L ≤ (x3 + (1 : Int32)).toNatClampNeg then none else
    if (x3 + (2 : Int32)) < 0 ∨ L ≤ (x3 + (2 : Int32)).toNatClampNeg then none else
    (F_X11_chestIn w M (xs (x3 + (1 : Int32)).toNatClampNeg) (xs (x3 + (2 : Int32)).toNatClampNeg)).bind fun q299 =>
    if (x3 + (1 : Int32)) < 0 ∨ L ≤ (x3 + (1 : Int32)).toNatClampNeg then none else
    if (x3 + (2 : Int32)) < 0 ∨ L ≤ (x3 + (2 : Int32)).toNatClampNeg then none else
    (F_X12_chestIn w q299.2 (xs (x3 + (1 : Int32)).toNatClampNeg) (xs (x3 + (2 : Int32)).toNatClampNeg)).bind fun q303 =>
    if q299.1 = q303.1 then
    L_L_law w L xs c q303.2 (x3 + (6 : Int32))
    else
    some (false, q303.2)
    else
    if ((xs x3.toNatClampNeg) &&& (63 : Int32)) = (29 : Int32) then
    (F_X11_tollIn w M).bind fun q307 =>
    (F_X12_tollIn w q307.2).bind fun q309 =>
    if q307.1 = q309.1 then
    L_L_law w L xs c q309.2 (x3 + (6 : Int32))
    else
    some (false, q309.2)
    else
    if ((xs x3.toNatClampNeg) &&& (63 : Int32)) = (30 : Int32) then
    (F_X11_bears w M).bind fun q313 =>
    (F_X12_bears w q313.2).bind fun q315 =>
    if q313.1 = q315.1 then
    L_L_law w L xs c q315.2 (x3 + (6 : Int32))
    else
    some (false, q315.2)
    else
    if ((xs x3.toNatClampNeg) &&& (63 : Int32)) = (31 : Int32) then
    if (x3 + (1 : Int32)) < 0 ∨ L ≤ (x3 + (1 : Int32)).toNatClampNeg then none else
    if (x3 + (2 : Int32)) < 0 ∨ L ≤ (x3 + (2 : Int32)).toNatClampNeg then none else
    (F_X11_gain w M (xs (x3 + (1 : Int32)).toNatClampNeg) (xs (x3 + (2 : Int32)).toNatClampNeg)).bind fun q321 =>
    if (x3 + (1 : Int32)) < 0 ∨ L ≤ (x3 + (1 : Int32)).toNatClampNeg then none else
    if (x3 + (2 : Int32)) < 0 ∨ L ≤ (x3 + (2 : Int32)).toNatClampNeg then none else
    (F_X12_gain w q321.2 (xs (x3 + (1 : Int32)).toNatClampNeg) (xs (x3 + (2 : Int32)).toNatClampNeg)).bind fun q325 =>
    if q321.1 = q325.1 then
    L_L_law w L xs c q325.2 (x3 + (6 : Int32))
    else
    some (false, q325.2)
    else
    if ((xs x3.toNatClampNeg) &&& (63 : Int32)) = (32 : Int32) then
    if (x3 + (1 : Int32)) < 0 ∨ L ≤ (x3 + (1 : Int32)).toNatClampNeg then none else
    (F_X11_changes w M (xs (x3 + (1 : Int32)).toNatClampNeg)).bind fun q330 =>
    if (x3 + (1 : Int32)) < 0 ∨ L ≤ (x3 + (1 : Int32)).toNatClampNeg then none else
    (F_X12_changes w q330.2 (xs (x3 + (1 : Int32)).toNatClampNeg)).bind fun q333 =>
    if q330.1 = q333.1 then
    L_L_law w L xs c q333.2 (x3 + (6 : Int32))
    else
    some (false, q333.2)
    else
    if ((xs x3.toNatClampNeg) &&& (63 : Int32)) = (33 : Int32) then
    if (x3 + (1 : Int32)) < 0 ∨ L ≤ (x3 + (1 : Int32)).toNatClampNeg then none else
    (F_X11_net w M (xs (x3 + (1 : Int32)).toNatClampNeg)).bind fun q338 =>
    if (x3 + (1 : Int32)) < 0 ∨ L ≤ (x3 + (1 : Int32)).toNatClampNeg then none else
    (F_X12_net w q338.2 (xs (x3 + (1 : Int32)).toNatClampNeg)).bind fun q341 =>
    if q338.1 = q341.1 then
    L_L_law w L xs c q341.2 (x3 + (6 : Int32))
    else
    some (false, q341.2)
    else
    if ((xs x3.toNatClampNeg) &&& (63 : Int32)) = (34 : Int32) then
    if (x3 + (1 : Int32)) < 0 ∨ L ≤ (x3 + (1 : Int32)).toNatClampNeg then none else
    (F_X11_best w M (xs (x3 + (1 : Int32)).toNatClampNeg)).bind fun q346 =>
    if (x3 + (1 : Int32)) < 0 ∨ L ≤ (x3 + (1 : Int32)).toNatClampNeg then none else
    (F_X12_best w q346.2 (xs (x3 + (1 : Int32)).toNatClampNeg)).bind fun q349 =>
    if q346.1 = q349.1 then
    L_L_law w L xs c q349.2 (x3 + (6 : Int32))
    else
    some (false, q349.2)
    else
    if ((xs x3.toNatClampNeg) &&& (63 : Int32)) = (35 : Int32) then
    if (x3 + (1 : Int32)) < 0 ∨ L ≤ (x3 + (1 : Int32)).toNatClampNeg then none else
    if (x3 + (2 : Int32)) < 0 ∨ L ≤ (x3 + (2 : Int32)).toNatClampNeg then none else
    (F_X11_isSo w M (xs (x3 + (1 : Int32)).toNatClampNeg) (xs (x3 + (2 : Int32)).toNatClampNeg)).bind fun q355 =>
    if (x3 + (1 : Int32)) < 0 ∨ L ≤ (x3 + (1 : Int32)).toNatClampNeg then none else
    if (x3 + (2 : Int32)) < 0 ∨ L ≤ (x3 + (2 : Int32)).toNatClampNeg then none else
    (F_X12_isSo w q355.2 (xs (x3 + (1 : Int32)).toNatClampNeg) (xs (x3 + (2 : Int32)).toNatClampNeg)).bind fun q359 =>
    if q355.1 = q359.1 then
    L_L_law w L xs c q359.2 (x3 + (6 : Int32))
    else
    some (false, q359.2)
    else
    if ((xs x3.toNatClampNeg) &&& (63 : Int32)) = (36 : Int32) then
    if (x3 + (1 : Int32)) < 0 ∨ L ≤ (x3 + (1 : Int32)).toNatClampNeg then none else
    (F_X11_howMany w M (xs (x3 + (1 : Int32)).toNatClampNeg)).bind fun q364 =>
    if (x3 + (1 : Int32)) < 0 ∨ L ≤ (x3 + (1 : Int32)).toNatClampNeg then none else
    (F_X12_howMany w q364.2 (xs (x3 + (1 : Int32)).toNatClampNeg)).bind fun q367 =>
    if q364.1 = q367.1 then
    L_L_law w L xs c q367.2 (x3 + (6 : Int32))
    else
    some (false, q367.2)
    else
    if ((xs x3.toNatClampNeg) &&& (63 : Int32)) = (37 : Int32) then
    if (x3 + (1 : Int32)) < 0 ∨ L ≤ (x3 + (1 : Int32)).toNatClampNeg then none else
    (F_X11_bestOf w M (xs (x3 + (1 : Int32)).toNatClampNeg)).bind fun q372 =>
    if (x3 + (1 : Int32)) < 0 ∨ L ≤ (x3 + (1 : Int32)).toNatClampNeg then none else
    (F_X12_bestOf w q372.2 (xs (x3 + (1 : Int32)).toNatClampNeg)).bind fun q375 =>
    if q372.1 = q375.1 then
    L_L_law w L xs c q375.2 (x3 + (6 : Int32))
    else
    some (false, q375.2)
    else
    if ((xs x3.toNatClampNeg) &&& (63 : Int32)) = (38 : Int32) then
    (F_X11_even w M).bind fun q379 =>
    (F_X12_even w q379.2).bind fun q381 =>
    if q379.1 = q381.1 then
    L_L_law w L xs c q381.2 (x3 + (6 : Int32))
    else
    some (false, q381.2)
    else
    if ((xs x3.toNatClampNeg) &&& (63 : Int32)) = (39 : Int32) then
    if (x3 + (1 : Int32)) < 0 ∨ L ≤ (x3 + (1 : Int32)).toNatClampNeg then none else
    (F_X11_rent w M (xs (x3 + (1 : Int32)).toNatClampNeg)).bind fun q386 =>
    if (x3 + (1 : Int32)) < 0 ∨ L ≤ (x3 + (1 : Int32)).toNatClampNeg then none else
    (F_X12_rent w q386.2 (xs (x3 + (1 : Int32)).toNatClampNeg)).bind fun q389 =>
    if q386.1 = q389.1 then
    L_L_law w L xs c q389.2 (x3 + (6 : Int32))
    else
    some (false, q389.2)
    else
    if ((xs x3.toNatClampNeg) &&& (63 : Int32)) = (40 : Int32) then
    (F_X11_rulings w M).bind fun q393 =>
    (F_X12_rulings w q393.2).bind fun q395 =>
    if q393.1 = q395.1 then
    L_L_law w L xs c q395.2 (x3 + (6 : Int32))
    else
    some (false, q395.2)
    else
    if ((xs x3.toNatClampNeg) &&& (63 : Int32)) = (41 : Int32) then
    if (x3 + (1 : Int32)) < 0 ∨ L ≤ (x3 + (1 : Int32)).toNatClampNeg then none else
    (F_X11_rulingAt w M (xs (x3 + (1 : Int32)).toNatClampNeg)).bind fun q400 =>
    if (x3 + (1 : Int32)) < 0 ∨ L ≤ (x3 + (1 : Int32)).toNatClampNeg then none else
    (F_X12_rulingAt w q400.2 (xs (x3 + (1 : Int32)).toNatClampNeg)).bind fun q403 =>
    if q400.1 = q403.1 then
    L_L_law w L xs c q403.2 (x3 + (6 : Int32))
    else
    some (false, q403.2)
    else
    if ((xs x3.toNatClampNeg) &&& (63 : Int32)) = (42 : Int32) then
    (F_X11_strike w M).bind fun q407 =>
    (F_X12_strike w q407.2).bind fun q409 =>
    if q407.1 = q409.1 then
    L_L_law w L xs c q409.2 (x3 + (6 : Int32))
    else
    some (false, q409.2)
    else
    if ((xs x3.toNatClampNeg) &&& (63 : Int32)) = (43 : Int32) then
    (F_X11_strikeSet w M).bind fun q413 =>
    (F_X12_strikeSet w q413.2).bind fun q415 =>
    if q413.1 = q415.1 then
    L_L_law w L xs c q415.2 (x3 + (6 : Int32))
    else
    some (false, q415.2)
    else
    if ((xs x3.toNatClampNeg) &&& (63 : Int32)) = (44 : Int32) then
    if (x3 + (1 : Int32)) < 0 ∨ L ≤ (x3 + (1 : Int32)).toNatClampNeg then none else
    (F_X11_sure w M (xs (x3 + (1 : Int32)).toNatClampNeg)).bind fun q420 =>
    if (x3 + (1 : Int32)) < 0 ∨ L ≤ (x3 + (1 : Int32)).toNatClampNeg then none else
    (F_X12_sure w q420.2 (xs (x3 + (1 : Int32)).toNatClampNeg)).bind fun q423 =>
    if q420.1 = q423.1 then
    L_L_law w L xs c q423.2 (x3 + (6 : Int32))
    else
    some (false, q423.2)
    else
    if ((xs x3.toNatClampNeg) &&& (63 : Int32)) = (45 : Int32) then
    if (x3 + (1 : Int32)) < 0 ∨ L ≤ (x3 + (1 : Int32)).toNatClampNeg then none else
    (F_X11_game w M (xs (x3 + (1 : Int32)).toNatClampNeg)).bind fun q428 =>
    if (x3 + (1 : Int32)) < 0 ∨ L ≤ (x3 + (1 : Int32)).toNatClampNeg then none else
    (F_X12_game w q428.2 (xs (x3 + (1 : Int32)).toNatClampNeg)).bind fun q431 =>
    if q428.1 = q431.1 then
    L_L_law w L xs c q431.2 (x3 + (6 : Int32))
    else
    some (false, q431.2)
    else
    if ((xs x3.toNatClampNeg) &&& (63 : Int32)) = (46 : Int32) then
    if (x3 + (1 : Int32)) < 0 ∨ L ≤ (x3 + (1 : Int32)).toNatClampNeg then none else
    (F_X11_moveOf w M (xs (x3 + (1 : Int32)).toNatClampNeg)).bind fun q436 =>
    if (x3 + (1 : Int32)) < 0 ∨ L ≤ (x3 + (1 : Int32)).toNatClampNeg then none else
    (F_X12_moveOf w q436.2 (xs (x3 + (1 : Int32)).toNatClampNeg)).bind fun q439 =>
    if q436.1 = q439.1 then
    L_L_law w L xs c q439.2 (x3 + (6 : Int32))
    else
    some (false, q439.2)
    else
    if ((xs x3.toNatClampNeg) &&& (63 : Int32)) = (47 : Int32) then
    if (x3 + (1 : Int32)) < 0 ∨ L ≤ (x3 + (1 : Int32)).toNatClampNeg then none else
    (F_X11_whose w M (xs (x3 + (1 : Int32)).toNatClampNeg)).bind fun q444 =>
    if (x3 + (1 : Int32)) < 0 ∨ L ≤ (x3 + (1 : Int32)).toNatClampNeg then none else
    (F_X12_whose w q444.2 (xs (x3 + (1 : Int32)).toNatClampNeg)).bind fun q447 =>
    if (z_tb q444.1) = (z_tb q447.1) then
    L_L_law w L xs c q447.2 (x3 + (6 : Int32))
    else
    some (false, q447.2)
    else
    if ((xs x3.toNatClampNeg) &&& (63 : Int32)) = (48 : Int32) then
    if (x3 + (1 : Int32)) < 0 ∨ L ≤ (x3 + (1 : Int32)).toNatClampNeg then none else
    (F_X11_share w M (xs (x3 + (1 : Int32)).toNatClampNeg)).bind fun q452 =>
    if (x3 + (1 : Int32)) < 0 ∨ L ≤ (x3 + (1 : Int32)).toNatClampNeg then none else
    (F_X12_share w q452.2 (xs (x3 + (1 : Int32)).toNatClampNeg)).bind fun q455 =>
    if (z_tb q452.1) = (z_tb q455.1) then
    L_L_law w L xs c q455.2 (x3 + (6 : Int32))
    else
    some (false, q455.2)
    else
    if ((xs x3.toNatClampNeg) &&& (63 : Int32)) = (49 : Int32) then
    if (x3 + (1 : Int32)) < 0 ∨ L ≤ (x3 + (1 : Int32)).toNatClampNeg then none else
    (F_X11_live w M (xs (x3 + (1 : Int32)).toNatClampNeg)).bind fun q460 =>
    if (x3 + (1 : Int32)) < 0 ∨ L ≤ (x3 + (1 : Int32)).toNatClampNeg then none else
    (F_X12_live w q460.2 (xs (x3 + (1 : Int32)).toNatClampNeg)).bind fun q463 =>
    if q460.1 = q463.1 then
    L_L_law w L xs c q463.2 (x3 + (6 : Int32))
    else
    some (false, q463.2)
    else
    if ((xs x3.toNatClampNeg) &&& (63 : Int32)) = (50 : Int32) then
    if (x3 + (1 : Int32)) < 0 ∨ L ≤ (x3 + (1 : Int32)).toNatClampNeg then none else
    (F_X11_lived w M (xs (x3 + (1 : Int32)).toNatClampNeg)).bind fun q468 =>
    if (x3 + (1 : Int32)) < 0 ∨ L ≤ (x3 + (1 : Int32)).toNatClampNeg then none else
    (F_X12_lived w q468.2 (xs (x3 + (1 : Int32)).toNatClampNeg)).bind fun q471 =>
    if q468.1 = q471.1 then
    L_L_law w L xs c q471.2 (x3 + (6 : Int32))
    else
    some (false, q471.2)
    else
    if ((xs x3.toNatClampNeg) &&& (63 : Int32)) = (51 : Int32) then
    if (x3 + (1 : Int32)) < 0 ∨ L ≤ (x3 + (1 : Int32)).toNatClampNeg then none else
    if (x3 + (2 : Int32)) < 0 ∨ L ≤ (x3 + (2 : Int32)).toNatClampNeg then none else
    (F_X11_mean w M (xs (x3 + (1 : Int32)).toNatClampNeg) (xs (x3 + (2 : Int32)).toNatClampNeg)).bind fun q477 =>
    if (x3 + (1 : Int32)) < 0 ∨ L ≤ (x3 + (1 : Int32)).toNatClampNeg then none else
    if (x3 + (2 : Int32)) < 0 ∨ L ≤ (x3 + (2 : Int32)).toNatClampNeg then none else
    (F_X12_mean w q477.2 (xs (x3 + (1 : Int32)).toNatClampNeg) (xs (x3 + (2 : Int32)).toNatClampNeg)).bind fun q481 =>
    if (z_tb q477.1) = (z_tb q481.1) then
    L_L_law w L xs c q481.2 (x3 + (6 : Int32))
    else
    some (false, q481.2)
    else
    if ((xs x3.toNatClampNeg) &&& (63 : Int32)) = (52 : Int32) then
    (F_X11_mark w M).bind fun q485 =>
    (F_X12_mark w q485.2).bind fun q487 =>
    if q485.1 = q487.1 then
    L_L_law w L xs c q487.2 (x3 + (6 : Int32))
    else
    some (false, q487.2)
    else
    if ((xs x3.toNatClampNeg) &&& (63 : Int32)) = (53 : Int32) then
    (F_X11_back w M).bind fun q491 =>
    (F_X12_back w q491.2).bind fun q493 =>
    if q491.1 = q493.1 then
    L_L_law w L xs c q493.2 (x3 + (6 : Int32))
    else
    some (false, q493.2)
    else
    L_L_law w L xs c M (x3 + (6 : Int32))
set_option maxHeartbeats 40000000 in
theorem AL_L_law {w : Nat} {L : Nat} {xs : Nat → Int32} : ∀ (c : Nat), (∀ (M : z_Mem) (x3 : Int32) (r : Bool) (M' : z_Mem) (Q : Option Value → z_Mem → Prop), L_L_law w L xs c M x3 = some (r, M') → Q (some (.int (z_tb r))) M' → z_G (some (L, xs)) 29 mL_law 18 [some (.ref 0), some (.ref 2), some (.ref 139), some (.int x3)] [] M Q) := by
  intro c
  induction c with
  | zero => exact (fun M x3 r M' Q h hq => by rw [L_L_law] at h; cases h)
  | succ c ih =>
    intro M x3 r M' Q h hq
    rw [L_L_law] at h
    refine g_iload_n dL_law_18 rfl rfl ?_
    refine g_aload_n dL_law_19 rfl rfl ?_
    refine g_slen dL_law_20 ?_
    refine g_bipush (v := (6 : Int32)) dL_law_21 (by decide) ?_
    refine g_isub dL_law_23 ?_
    refine g_ic_gt (t := 1771) dL_law_24 (by decide) (fun c1 => ?_) (fun c1 => ?_)
    · replace h := z_ift c1 h
      refine g_iconst (v := (1 : Int32)) dL_law_1771 (by decide) ?_
      cases h
      exact g_iret dL_law_1772 rfl rfl hq
    · replace h := z_iff c1 h
      refine g_aload_n dL_law_27 rfl rfl ?_
      refine g_iload_n dL_law_28 rfl rfl ?_
      by_cases g2 : x3 < 0 ∨ L ≤ x3.toNatClampNeg
      · rw [if_pos g2] at h; cases h
      replace h := z_iff g2 h
      refine g_sld dL_law_29 g2 ?_
      refine g_bipush (v := (63 : Int32)) dL_law_30 (by decide) ?_
      refine g_iand dL_law_32 ?_
      by_cases s3 : (xs x3.toNatClampNeg) &&& (63 : Int32) = (0 : Int32)
      · replace h := z_ift s3 h
        refine g_top (v := (0 : Int32)) s3 ?_
        refine g_tsIn (off := 231) (t := 264) dL_law_33 (by decide) (by decide) (by decide) ?_
        refine g_aload_n dL_law_264 rfl rfl ?_
        obtain ⟨q4, e5, h⟩ := z_bd h
        refine g_callV (a := 0) (as := []) (rest := []) (c := mX11_status) (k1 := 0) dL_law_265 rfl rfl rfl sh_0 rfl rfl (Nat.le_of_ble_eq_true rfl) (Nat.le_of_ble_eq_true rfl) (by decide) ?_
        refine A_X11_status e5 ?_
        show z_G (some (L, xs)) 29 mL_law 268 [some (.ref 0), some (.ref 2), some (.ref 139), some (.int x3)] [.int q4.1] q4.2 Q
        refine g_aload_n dL_law_268 rfl rfl ?_
        obtain ⟨q6, e7, h⟩ := z_bd h
        refine g_callV (a := 137) (as := []) (rest := [.int q4.1]) (c := mX12_status) (k1 := 0) dL_law_269 rfl rfl rfl sh_137 rfl rfl (Nat.le_of_ble_eq_true rfl) (Nat.le_of_ble_eq_true rfl) (by decide) ?_
        refine A_X12_status e7 ?_
        show z_G (some (L, xs)) 29 mL_law 272 [some (.ref 0), some (.ref 2), some (.ref 139), some (.int x3)] [.int q6.1, .int q4.1] q6.2 Q
        refine g_ic_eq (t := 1765) dL_law_272 (by decide) (fun c8 => ?_) (fun c8 => ?_)
        · replace h := z_ift c8 h
          refine g_iinc (v := x3 + (6 : Int32)) (ls' := [some (.ref 0), some (.ref 2), some (.ref 139), some (.int (x3 + (6 : Int32)))]) dL_law_1765 rfl rfl rfl ?_
          refine g_goto (t := 18) dL_law_1768 (by decide) ?_
          exact g_sub (z_sub_s (z_sub_s (z_sub_s (z_sub_s z_sub_nil)))) (ih _ _ _ _ _ h hq)
        · replace h := z_iff c8 h
          refine g_iconst (v := (0 : Int32)) dL_law_275 (by decide) ?_
          cases h
          exact g_iret dL_law_276 rfl rfl hq
      replace h := z_iff s3 h
      by_cases s9 : (xs x3.toNatClampNeg) &&& (63 : Int32) = (1 : Int32)
      · replace h := z_ift s9 h
        refine g_top (v := (1 : Int32)) s9 ?_
        refine g_tsIn (off := 244) (t := 277) dL_law_33 (by decide) (by decide) (by decide) ?_
        refine g_aload_n dL_law_277 rfl rfl ?_
        obtain ⟨q10, e11, h⟩ := z_bd h
        refine g_callV (a := 0) (as := []) (rest := []) (c := mX11_top) (k1 := 0) dL_law_278 rfl rfl rfl sh_0 rfl rfl (Nat.le_of_ble_eq_true rfl) (Nat.le_of_ble_eq_true rfl) (by decide) ?_
        refine A_X11_top e11 ?_
        show z_G (some (L, xs)) 29 mL_law 281 [some (.ref 0), some (.ref 2), some (.ref 139), some (.int x3)] [.long q10.1] q10.2 Q
        refine g_aload_n dL_law_281 rfl rfl ?_
        obtain ⟨q12, e13, h⟩ := z_bd h
        refine g_callV (a := 137) (as := []) (rest := [.long q10.1]) (c := mX12_top) (k1 := 0) dL_law_282 rfl rfl rfl sh_137 rfl rfl (Nat.le_of_ble_eq_true rfl) (Nat.le_of_ble_eq_true rfl) (by decide) ?_
        refine A_X12_top e13 ?_
        show z_G (some (L, xs)) 29 mL_law 285 [some (.ref 0), some (.ref 2), some (.ref 139), some (.int x3)] [.long q12.1, .long q10.1] q12.2 Q
        refine g_lcmp dL_law_285 ?_
        refine g_if_eq (t := 1765) dL_law_286 (by decide) (fun c14 => ?_) (fun c14 => ?_)
        · replace h := z_ift c14 h
          refine g_iinc (v := x3 + (6 : Int32)) (ls' := [some (.ref 0), some (.ref 2), some (.ref 139), some (.int (x3 + (6 : Int32)))]) dL_law_1765 rfl rfl rfl ?_
          refine g_goto (t := 18) dL_law_1768 (by decide) ?_
          exact g_sub (z_sub_s (z_sub_s (z_sub_s (z_sub_s z_sub_nil)))) (ih _ _ _ _ _ h hq)
        · replace h := z_iff c14 h
          refine g_iconst (v := (0 : Int32)) dL_law_289 (by decide) ?_
          cases h
          exact g_iret dL_law_290 rfl rfl hq
      replace h := z_iff s9 h
      by_cases s15 : (xs x3.toNatClampNeg) &&& (63 : Int32) = (2 : Int32)
      · replace h := z_ift s15 h
        refine g_top (v := (2 : Int32)) s15 ?_
        refine g_tsIn (off := 258) (t := 291) dL_law_33 (by decide) (by decide) (by decide) ?_
        refine g_aload_n dL_law_291 rfl rfl ?_
        obtain ⟨q16, e17, h⟩ := z_bd h
        refine g_callV (a := 0) (as := []) (rest := []) (c := mX11_bottom) (k1 := 0) dL_law_292 rfl rfl rfl sh_0 rfl rfl (Nat.le_of_ble_eq_true rfl) (Nat.le_of_ble_eq_true rfl) (by decide) ?_
        refine A_X11_bottom e17 ?_
        show z_G (some (L, xs)) 29 mL_law 295 [some (.ref 0), some (.ref 2), some (.ref 139), some (.int x3)] [.long q16.1] q16.2 Q
        refine g_aload_n dL_law_295 rfl rfl ?_
        obtain ⟨q18, e19, h⟩ := z_bd h
        refine g_callV (a := 137) (as := []) (rest := [.long q16.1]) (c := mX12_bottom) (k1 := 0) dL_law_296 rfl rfl rfl sh_137 rfl rfl (Nat.le_of_ble_eq_true rfl) (Nat.le_of_ble_eq_true rfl) (by decide) ?_
        refine A_X12_bottom e19 ?_
        show z_G (some (L, xs)) 29 mL_law 299 [some (.ref 0), some (.ref 2), some (.ref 139), some (.int x3)] [.long q18.1, .long q16.1] q18.2 Q
        refine g_lcmp dL_law_299 ?_
        refine g_if_eq (t := 1765) dL_law_300 (by decide) (fun c20 => ?_) (fun c20 => ?_)
        · replace h := z_ift c20 h
          refine g_iinc (v := x3 + (6 : Int32)) (ls' := [some (.ref 0), some (.ref 2), some (.ref 139), some (.int (x3 + (6 : Int32)))]) dL_law_1765 rfl rfl rfl ?_
          refine g_goto (t := 18) dL_law_1768 (by decide) ?_
          exact g_sub (z_sub_s (z_sub_s (z_sub_s (z_sub_s z_sub_nil)))) (ih _ _ _ _ _ h hq)
        · replace h := z_iff c20 h
          refine g_iconst (v := (0 : Int32)) dL_law_303 (by decide) ?_
          cases h
          exact g_iret dL_law_304 rfl rfl hq
      replace h := z_iff s15 h
      by_cases s21 : (xs x3.toNatClampNeg) &&& (63 : Int32) = (3 : Int32)
      · replace h := z_ift s21 h
        refine g_top (v := (3 : Int32)) s21 ?_
        refine g_tsIn (off := 272) (t := 305) dL_law_33 (by decide) (by decide) (by decide) ?_
        refine g_aload_n dL_law_305 rfl rfl ?_
        refine g_aload_n dL_law_306 rfl rfl ?_
        refine g_iload_n dL_law_307 rfl rfl ?_
        refine g_iconst (v := (1 : Int32)) dL_law_308 (by decide) ?_
        refine g_iadd dL_law_309 ?_
        by_cases g22 : (x3 + (1 : Int32)) < 0 ∨ L ≤ (x3 + (1 : Int32)).toNatClampNeg
        · rw [if_pos g22] at h; cases h
        replace h := z_iff g22 h
        refine g_sld dL_law_310 g22 ?_
        refine g_aload_n dL_law_311 rfl rfl ?_
        refine g_iload_n dL_law_312 rfl rfl ?_
        refine g_iconst (v := (2 : Int32)) dL_law_313 (by decide) ?_
        refine g_iadd dL_law_314 ?_
        by_cases g23 : (x3 + (2 : Int32)) < 0 ∨ L ≤ (x3 + (2 : Int32)).toNatClampNeg
        · rw [if_pos g23] at h; cases h
        replace h := z_iff g23 h
        refine g_sld dL_law_315 g23 ?_
        refine g_aload_n dL_law_316 rfl rfl ?_
        refine g_iload_n dL_law_317 rfl rfl ?_
        refine g_iconst (v := (3 : Int32)) dL_law_318 (by decide) ?_
        refine g_iadd dL_law_319 ?_
        by_cases g24 : (x3 + (3 : Int32)) < 0 ∨ L ≤ (x3 + (3 : Int32)).toNatClampNeg
        · rw [if_pos g24] at h; cases h
        replace h := z_iff g24 h
        refine g_sld dL_law_320 g24 ?_
        obtain ⟨q25, e26, h⟩ := z_bd h
        refine g_callV (a := 0) (as := [.int (xs (x3 + (1 : Int32)).toNatClampNeg), .int (xs (x3 + (2 : Int32)).toNatClampNeg), .int (xs (x3 + (3 : Int32)).toNatClampNeg)]) (rest := []) (c := mX11_tray) (k1 := 1) dL_law_321 rfl rfl rfl sh_0 rfl rfl (Nat.le_of_ble_eq_true rfl) (Nat.le_of_ble_eq_true rfl) (by decide) ?_
        refine A_X11_tray e26 ?_
        show z_G (some (L, xs)) 29 mL_law 324 [some (.ref 0), some (.ref 2), some (.ref 139), some (.int x3)] [.int (z_tb q25.1)] q25.2 Q
        refine g_aload_n dL_law_324 rfl rfl ?_
        refine g_aload_n dL_law_325 rfl rfl ?_
        refine g_iload_n dL_law_326 rfl rfl ?_
        refine g_iconst (v := (1 : Int32)) dL_law_327 (by decide) ?_
        refine g_iadd dL_law_328 ?_
        by_cases g27 : (x3 + (1 : Int32)) < 0 ∨ L ≤ (x3 + (1 : Int32)).toNatClampNeg
        · rw [if_pos g27] at h; cases h
        replace h := z_iff g27 h
        refine g_sld dL_law_329 g27 ?_
        refine g_aload_n dL_law_330 rfl rfl ?_
        refine g_iload_n dL_law_331 rfl rfl ?_
        refine g_iconst (v := (2 : Int32)) dL_law_332 (by decide) ?_
        refine g_iadd dL_law_333 ?_
        by_cases g28 : (x3 + (2 : Int32)) < 0 ∨ L ≤ (x3 + (2 : Int32)).toNatClampNeg
        · rw [if_pos g28] at h; cases h
        replace h := z_iff g28 h
        refine g_sld dL_law_334 g28 ?_
        refine g_aload_n dL_law_335 rfl rfl ?_
        refine g_iload_n dL_law_336 rfl rfl ?_
        refine g_iconst (v := (3 : Int32)) dL_law_337 (by decide) ?_
        refine g_iadd dL_law_338 ?_
        by_cases g29 : (x3 + (3 : Int32)) < 0 ∨ L ≤ (x3 + (3 : Int32)).toNatClampNeg
        · rw [if_pos g29] at h; cases h
        replace h := z_iff g29 h
        refine g_sld dL_law_339 g29 ?_
        obtain ⟨q30, e31, h⟩ := z_bd h
        refine g_callV (a := 137) (as := [.int (xs (x3 + (1 : Int32)).toNatClampNeg), .int (xs (x3 + (2 : Int32)).toNatClampNeg), .int (xs (x3 + (3 : Int32)).toNatClampNeg)]) (rest := [.int (z_tb q25.1)]) (c := mX12_tray) (k1 := 1) dL_law_340 rfl rfl rfl sh_137 rfl rfl (Nat.le_of_ble_eq_true rfl) (Nat.le_of_ble_eq_true rfl) (by decide) ?_
        refine A_X12_tray e31 ?_
        show z_G (some (L, xs)) 29 mL_law 343 [some (.ref 0), some (.ref 2), some (.ref 139), some (.int x3)] [.int (z_tb q30.1), .int (z_tb q25.1)] q30.2 Q
        refine g_ic_eq (t := 1765) dL_law_343 (by decide) (fun c32 => ?_) (fun c32 => ?_)
        · replace h := z_ift c32 h
          refine g_iinc (v := x3 + (6 : Int32)) (ls' := [some (.ref 0), some (.ref 2), some (.ref 139), some (.int (x3 + (6 : Int32)))]) dL_law_1765 rfl rfl rfl ?_
          refine g_goto (t := 18) dL_law_1768 (by decide) ?_
          exact g_sub (z_sub_s (z_sub_s (z_sub_s (z_sub_s z_sub_nil)))) (ih _ _ _ _ _ h hq)
        · replace h := z_iff c32 h
          refine g_iconst (v := (0 : Int32)) dL_law_346 (by decide) ?_
          cases h
          exact g_iret dL_law_347 rfl rfl hq
      replace h := z_iff s21 h
      by_cases s33 : (xs x3.toNatClampNeg) &&& (63 : Int32) = (4 : Int32)
      · replace h := z_ift s33 h
        refine g_top (v := (4 : Int32)) s33 ?_
        refine g_tsIn (off := 315) (t := 348) dL_law_33 (by decide) (by decide) (by decide) ?_
        refine g_aload_n dL_law_348 rfl rfl ?_
        refine g_aload_n dL_law_349 rfl rfl ?_
        refine g_iload_n dL_law_350 rfl rfl ?_
        refine g_iconst (v := (1 : Int32)) dL_law_351 (by decide) ?_
        refine g_iadd dL_law_352 ?_
        by_cases g34 : (x3 + (1 : Int32)) < 0 ∨ L ≤ (x3 + (1 : Int32)).toNatClampNeg
        · rw [if_pos g34] at h; cases h
        replace h := z_iff g34 h
        refine g_sld dL_law_353 g34 ?_
        refine g_aload_n dL_law_354 rfl rfl ?_
        refine g_iload_n dL_law_355 rfl rfl ?_
        refine g_iconst (v := (2 : Int32)) dL_law_356 (by decide) ?_
        refine g_iadd dL_law_357 ?_
        by_cases g35 : (x3 + (2 : Int32)) < 0 ∨ L ≤ (x3 + (2 : Int32)).toNatClampNeg
        · rw [if_pos g35] at h; cases h
        replace h := z_iff g35 h
        refine g_sld dL_law_358 g35 ?_
        refine g_aload_n dL_law_359 rfl rfl ?_
        refine g_iload_n dL_law_360 rfl rfl ?_
        refine g_iconst (v := (3 : Int32)) dL_law_361 (by decide) ?_
        refine g_iadd dL_law_362 ?_
        by_cases g36 : (x3 + (3 : Int32)) < 0 ∨ L ≤ (x3 + (3 : Int32)).toNatClampNeg
        · rw [if_pos g36] at h; cases h
        replace h := z_iff g36 h
        refine g_sld dL_law_363 g36 ?_
        refine g_i2l dL_law_364 ?_
        refine g_bipush (v := (32 : Int32)) dL_law_365 (by decide) ?_
        refine g_lshl dL_law_367 ?_
        refine g_aload_n dL_law_368 rfl rfl ?_
        refine g_iload_n dL_law_369 rfl rfl ?_
        refine g_iconst (v := (4 : Int32)) dL_law_370 (by decide) ?_
        refine g_iadd dL_law_371 ?_
        by_cases g37 : (x3 + (4 : Int32)) < 0 ∨ L ≤ (x3 + (4 : Int32)).toNatClampNeg
        · rw [if_pos g37] at h; cases h
        replace h := z_iff g37 h
        refine g_sld dL_law_372 g37 ?_
        refine g_i2l dL_law_373 ?_
        refine g_ldc2_w dL_law_374 rfl ?_
        refine g_land dL_law_377 ?_
        refine g_lor dL_law_378 ?_
        obtain ⟨q38, e39, h⟩ := z_bd h
        refine g_callV (a := 0) (as := [.int (xs (x3 + (1 : Int32)).toNatClampNeg), .int (xs (x3 + (2 : Int32)).toNatClampNeg), .long ((((xs (x3 + (3 : Int32)).toNatClampNeg).toInt64) <<< ((32 : Int32).toInt64 &&& 63)) ||| (((xs (x3 + (4 : Int32)).toNatClampNeg).toInt64) &&& (4294967295 : Int64)))]) (rest := []) (c := mX11_write) (k1 := 2) dL_law_379 rfl rfl rfl sh_0 rfl rfl (Nat.le_of_ble_eq_true rfl) (Nat.le_of_ble_eq_true rfl) (by decide) ?_
        refine A_X11_write e39 ?_
        show z_G (some (L, xs)) 29 mL_law 382 [some (.ref 0), some (.ref 2), some (.ref 139), some (.int x3)] [.int (z_tb q38.1)] q38.2 Q
        refine g_aload_n dL_law_382 rfl rfl ?_
        refine g_aload_n dL_law_383 rfl rfl ?_
        refine g_iload_n dL_law_384 rfl rfl ?_
        refine g_iconst (v := (1 : Int32)) dL_law_385 (by decide) ?_
        refine g_iadd dL_law_386 ?_
        by_cases g40 : (x3 + (1 : Int32)) < 0 ∨ L ≤ (x3 + (1 : Int32)).toNatClampNeg
        · rw [if_pos g40] at h; cases h
        replace h := z_iff g40 h
        refine g_sld dL_law_387 g40 ?_
        refine g_aload_n dL_law_388 rfl rfl ?_
        refine g_iload_n dL_law_389 rfl rfl ?_
        refine g_iconst (v := (2 : Int32)) dL_law_390 (by decide) ?_
        refine g_iadd dL_law_391 ?_
        by_cases g41 : (x3 + (2 : Int32)) < 0 ∨ L ≤ (x3 + (2 : Int32)).toNatClampNeg
        · rw [if_pos g41] at h; cases h
        replace h := z_iff g41 h
        refine g_sld dL_law_392 g41 ?_
        refine g_aload_n dL_law_393 rfl rfl ?_
        refine g_iload_n dL_law_394 rfl rfl ?_
        refine g_iconst (v := (3 : Int32)) dL_law_395 (by decide) ?_
        refine g_iadd dL_law_396 ?_
        by_cases g42 : (x3 + (3 : Int32)) < 0 ∨ L ≤ (x3 + (3 : Int32)).toNatClampNeg
        · rw [if_pos g42] at h; cases h
        replace h := z_iff g42 h
        refine g_sld dL_law_397 g42 ?_
        refine g_i2l dL_law_398 ?_
        refine g_bipush (v := (32 : Int32)) dL_law_399 (by decide) ?_
        refine g_lshl dL_law_401 ?_
        refine g_aload_n dL_law_402 rfl rfl ?_
        refine g_iload_n dL_law_403 rfl rfl ?_
        refine g_iconst (v := (4 : Int32)) dL_law_404 (by decide) ?_
        refine g_iadd dL_law_405 ?_
        by_cases g43 : (x3 + (4 : Int32)) < 0 ∨ L ≤ (x3 + (4 : Int32)).toNatClampNeg
        · rw [if_pos g43] at h; cases h
        replace h := z_iff g43 h
        refine g_sld dL_law_406 g43 ?_
        refine g_i2l dL_law_407 ?_
        refine g_ldc2_w dL_law_408 rfl ?_
        refine g_land dL_law_411 ?_
        refine g_lor dL_law_412 ?_
        obtain ⟨q44, e45, h⟩ := z_bd h
        refine g_callV (a := 137) (as := [.int (xs (x3 + (1 : Int32)).toNatClampNeg), .int (xs (x3 + (2 : Int32)).toNatClampNeg), .long ((((xs (x3 + (3 : Int32)).toNatClampNeg).toInt64) <<< ((32 : Int32).toInt64 &&& 63)) ||| (((xs (x3 + (4 : Int32)).toNatClampNeg).toInt64) &&& (4294967295 : Int64)))]) (rest := [.int (z_tb q38.1)]) (c := mX12_write) (k1 := 2) dL_law_413 rfl rfl rfl sh_137 rfl rfl (Nat.le_of_ble_eq_true rfl) (Nat.le_of_ble_eq_true rfl) (by decide) ?_
        refine A_X12_write e45 ?_
        show z_G (some (L, xs)) 29 mL_law 416 [some (.ref 0), some (.ref 2), some (.ref 139), some (.int x3)] [.int (z_tb q44.1), .int (z_tb q38.1)] q44.2 Q
        refine g_ic_eq (t := 1765) dL_law_416 (by decide) (fun c46 => ?_) (fun c46 => ?_)
        · replace h := z_ift c46 h
          refine g_iinc (v := x3 + (6 : Int32)) (ls' := [some (.ref 0), some (.ref 2), some (.ref 139), some (.int (x3 + (6 : Int32)))]) dL_law_1765 rfl rfl rfl ?_
          refine g_goto (t := 18) dL_law_1768 (by decide) ?_
          exact g_sub (z_sub_s (z_sub_s (z_sub_s (z_sub_s z_sub_nil)))) (ih _ _ _ _ _ h hq)
        · replace h := z_iff c46 h
          refine g_iconst (v := (0 : Int32)) dL_law_419 (by decide) ?_
          cases h
          exact g_iret dL_law_420 rfl rfl hq
      replace h := z_iff s33 h
      by_cases s47 : (xs x3.toNatClampNeg) &&& (63 : Int32) = (5 : Int32)
      · replace h := z_ift s47 h
        refine g_top (v := (5 : Int32)) s47 ?_
        refine g_tsIn (off := 388) (t := 421) dL_law_33 (by decide) (by decide) (by decide) ?_
        refine g_aload_n dL_law_421 rfl rfl ?_
        refine g_aload_n dL_law_422 rfl rfl ?_
        refine g_iload_n dL_law_423 rfl rfl ?_
        refine g_iconst (v := (1 : Int32)) dL_law_424 (by decide) ?_
        refine g_iadd dL_law_425 ?_
        by_cases g48 : (x3 + (1 : Int32)) < 0 ∨ L ≤ (x3 + (1 : Int32)).toNatClampNeg
        · rw [if_pos g48] at h; cases h
        replace h := z_iff g48 h
        refine g_sld dL_law_426 g48 ?_
        refine g_aload_n dL_law_427 rfl rfl ?_
        refine g_iload_n dL_law_428 rfl rfl ?_
        refine g_iconst (v := (2 : Int32)) dL_law_429 (by decide) ?_
        refine g_iadd dL_law_430 ?_
        by_cases g49 : (x3 + (2 : Int32)) < 0 ∨ L ≤ (x3 + (2 : Int32)).toNatClampNeg
        · rw [if_pos g49] at h; cases h
        replace h := z_iff g49 h
        refine g_sld dL_law_431 g49 ?_
        obtain ⟨q50, e51, h⟩ := z_bd h
        refine g_callV (a := 0) (as := [.int (xs (x3 + (1 : Int32)).toNatClampNeg), .int (xs (x3 + (2 : Int32)).toNatClampNeg)]) (rest := []) (c := mX11_read) (k1 := 2) dL_law_432 rfl rfl rfl sh_0 rfl rfl (Nat.le_of_ble_eq_true rfl) (Nat.le_of_ble_eq_true rfl) (by decide) ?_
        refine A_X11_read e51 ?_
        show z_G (some (L, xs)) 29 mL_law 435 [some (.ref 0), some (.ref 2), some (.ref 139), some (.int x3)] [.long q50.1] q50.2 Q
        refine g_aload_n dL_law_435 rfl rfl ?_
        refine g_aload_n dL_law_436 rfl rfl ?_
        refine g_iload_n dL_law_437 rfl rfl ?_
        refine g_iconst (v := (1 : Int32)) dL_law_438 (by decide) ?_
        refine g_iadd dL_law_439 ?_
        by_cases g52 : (x3 + (1 : Int32)) < 0 ∨ L ≤ (x3 + (1 : Int32)).toNatClampNeg
        · rw [if_pos g52] at h; cases h
        replace h := z_iff g52 h
        refine g_sld dL_law_440 g52 ?_
        refine g_aload_n dL_law_441 rfl rfl ?_
        refine g_iload_n dL_law_442 rfl rfl ?_
        refine g_iconst (v := (2 : Int32)) dL_law_443 (by decide) ?_
        refine g_iadd dL_law_444 ?_
        by_cases g53 : (x3 + (2 : Int32)) < 0 ∨ L ≤ (x3 + (2 : Int32)).toNatClampNeg
        · rw [if_pos g53] at h; cases h
        replace h := z_iff g53 h
        refine g_sld dL_law_445 g53 ?_
        obtain ⟨q54, e55, h⟩ := z_bd h
        refine g_callV (a := 137) (as := [.int (xs (x3 + (1 : Int32)).toNatClampNeg), .int (xs (x3 + (2 : Int32)).toNatClampNeg)]) (rest := [.long q50.1]) (c := mX12_read) (k1 := 2) dL_law_446 rfl rfl rfl sh_137 rfl rfl (Nat.le_of_ble_eq_true rfl) (Nat.le_of_ble_eq_true rfl) (by decide) ?_
        refine A_X12_read e55 ?_
        show z_G (some (L, xs)) 29 mL_law 449 [some (.ref 0), some (.ref 2), some (.ref 139), some (.int x3)] [.long q54.1, .long q50.1] q54.2 Q
        refine g_lcmp dL_law_449 ?_
        refine g_if_eq (t := 1765) dL_law_450 (by decide) (fun c56 => ?_) (fun c56 => ?_)
        · replace h := z_ift c56 h
          refine g_iinc (v := x3 + (6 : Int32)) (ls' := [some (.ref 0), some (.ref 2), some (.ref 139), some (.int (x3 + (6 : Int32)))]) dL_law_1765 rfl rfl rfl ?_
          refine g_goto (t := 18) dL_law_1768 (by decide) ?_
          exact g_sub (z_sub_s (z_sub_s (z_sub_s (z_sub_s z_sub_nil)))) (ih _ _ _ _ _ h hq)
        · replace h := z_iff c56 h
          refine g_iconst (v := (0 : Int32)) dL_law_453 (by decide) ?_
          cases h
          exact g_iret dL_law_454 rfl rfl hq
      replace h := z_iff s47 h
      by_cases s57 : (xs x3.toNatClampNeg) &&& (63 : Int32) = (6 : Int32)
      · replace h := z_ift s57 h
        refine g_top (v := (6 : Int32)) s57 ?_
        refine g_tsIn (off := 422) (t := 455) dL_law_33 (by decide) (by decide) (by decide) ?_
        refine g_aload_n dL_law_455 rfl rfl ?_
        refine g_aload_n dL_law_456 rfl rfl ?_
        refine g_iload_n dL_law_457 rfl rfl ?_
        refine g_iconst (v := (1 : Int32)) dL_law_458 (by decide) ?_
        refine g_iadd dL_law_459 ?_
        by_cases g58 : (x3 + (1 : Int32)) < 0 ∨ L ≤ (x3 + (1 : Int32)).toNatClampNeg
        · rw [if_pos g58] at h; cases h
        replace h := z_iff g58 h
        refine g_sld dL_law_460 g58 ?_
        refine g_aload_n dL_law_461 rfl rfl ?_
        refine g_iload_n dL_law_462 rfl rfl ?_
        refine g_iconst (v := (2 : Int32)) dL_law_463 (by decide) ?_
        refine g_iadd dL_law_464 ?_
        by_cases g59 : (x3 + (2 : Int32)) < 0 ∨ L ≤ (x3 + (2 : Int32)).toNatClampNeg
        · rw [if_pos g59] at h; cases h
        replace h := z_iff g59 h
        refine g_sld dL_law_465 g59 ?_
        refine g_aload_n dL_law_466 rfl rfl ?_
        refine g_iload_n dL_law_467 rfl rfl ?_
        refine g_iconst (v := (3 : Int32)) dL_law_468 (by decide) ?_
        refine g_iadd dL_law_469 ?_
        by_cases g60 : (x3 + (3 : Int32)) < 0 ∨ L ≤ (x3 + (3 : Int32)).toNatClampNeg
        · rw [if_pos g60] at h; cases h
        replace h := z_iff g60 h
        refine g_sld dL_law_470 g60 ?_
        refine g_aload_n dL_law_471 rfl rfl ?_
        refine g_iload_n dL_law_472 rfl rfl ?_
        refine g_iconst (v := (4 : Int32)) dL_law_473 (by decide) ?_
        refine g_iadd dL_law_474 ?_
        by_cases g61 : (x3 + (4 : Int32)) < 0 ∨ L ≤ (x3 + (4 : Int32)).toNatClampNeg
        · rw [if_pos g61] at h; cases h
        replace h := z_iff g61 h
        refine g_sld dL_law_475 g61 ?_
        refine g_aload_n dL_law_476 rfl rfl ?_
        refine g_iload_n dL_law_477 rfl rfl ?_
        refine g_iconst (v := (5 : Int32)) dL_law_478 (by decide) ?_
        refine g_iadd dL_law_479 ?_
        by_cases g62 : (x3 + (5 : Int32)) < 0 ∨ L ≤ (x3 + (5 : Int32)).toNatClampNeg
        · rw [if_pos g62] at h; cases h
        replace h := z_iff g62 h
        refine g_sld dL_law_480 g62 ?_
        obtain ⟨q63, e64, h⟩ := z_bd h
        refine g_callV (a := 0) (as := [.int (xs (x3 + (1 : Int32)).toNatClampNeg), .int (xs (x3 + (2 : Int32)).toNatClampNeg), .int (xs (x3 + (3 : Int32)).toNatClampNeg), .int (xs (x3 + (4 : Int32)).toNatClampNeg), .int (xs (x3 + (5 : Int32)).toNatClampNeg)]) (rest := []) (c := mX11_pour) (k1 := 1) dL_law_481 rfl rfl rfl sh_0 rfl rfl (Nat.le_of_ble_eq_true rfl) (Nat.le_of_ble_eq_true rfl) (by decide) ?_
        refine A_X11_pour e64 ?_
        show z_G (some (L, xs)) 29 mL_law 484 [some (.ref 0), some (.ref 2), some (.ref 139), some (.int x3)] [.int (z_tb q63.1)] q63.2 Q
        refine g_aload_n dL_law_484 rfl rfl ?_
        refine g_aload_n dL_law_485 rfl rfl ?_
        refine g_iload_n dL_law_486 rfl rfl ?_
        refine g_iconst (v := (1 : Int32)) dL_law_487 (by decide) ?_
        refine g_iadd dL_law_488 ?_
        by_cases g65 : (x3 + (1 : Int32)) < 0 ∨ L ≤ (x3 + (1 : Int32)).toNatClampNeg
        · rw [if_pos g65] at h; cases h
        replace h := z_iff g65 h
        refine g_sld dL_law_489 g65 ?_
        refine g_aload_n dL_law_490 rfl rfl ?_
        refine g_iload_n dL_law_491 rfl rfl ?_
        refine g_iconst (v := (2 : Int32)) dL_law_492 (by decide) ?_
        refine g_iadd dL_law_493 ?_
        by_cases g66 : (x3 + (2 : Int32)) < 0 ∨ L ≤ (x3 + (2 : Int32)).toNatClampNeg
        · rw [if_pos g66] at h; cases h
        replace h := z_iff g66 h
        refine g_sld dL_law_494 g66 ?_
        refine g_aload_n dL_law_495 rfl rfl ?_
        refine g_iload_n dL_law_496 rfl rfl ?_
        refine g_iconst (v := (3 : Int32)) dL_law_497 (by decide) ?_
        refine g_iadd dL_law_498 ?_
        by_cases g67 : (x3 + (3 : Int32)) < 0 ∨ L ≤ (x3 + (3 : Int32)).toNatClampNeg
        · rw [if_pos g67] at h; cases h
        replace h := z_iff g67 h
        refine g_sld dL_law_499 g67 ?_
        refine g_aload_n dL_law_500 rfl rfl ?_
        refine g_iload_n dL_law_501 rfl rfl ?_
        refine g_iconst (v := (4 : Int32)) dL_law_502 (by decide) ?_
        refine g_iadd dL_law_503 ?_
        by_cases g68 : (x3 + (4 : Int32)) < 0 ∨ L ≤ (x3 + (4 : Int32)).toNatClampNeg
        · rw [if_pos g68] at h; cases h
        replace h := z_iff g68 h
        refine g_sld dL_law_504 g68 ?_
        refine g_aload_n dL_law_505 rfl rfl ?_
        refine g_iload_n dL_law_506 rfl rfl ?_
        refine g_iconst (v := (5 : Int32)) dL_law_507 (by decide) ?_
        refine g_iadd dL_law_508 ?_
        by_cases g69 : (x3 + (5 : Int32)) < 0 ∨ L ≤ (x3 + (5 : Int32)).toNatClampNeg
        · rw [if_pos g69] at h; cases h
        replace h := z_iff g69 h
        refine g_sld dL_law_509 g69 ?_
        obtain ⟨q70, e71, h⟩ := z_bd h
        refine g_callV (a := 137) (as := [.int (xs (x3 + (1 : Int32)).toNatClampNeg), .int (xs (x3 + (2 : Int32)).toNatClampNeg), .int (xs (x3 + (3 : Int32)).toNatClampNeg), .int (xs (x3 + (4 : Int32)).toNatClampNeg), .int (xs (x3 + (5 : Int32)).toNatClampNeg)]) (rest := [.int (z_tb q63.1)]) (c := mX12_pour) (k1 := 1) dL_law_510 rfl rfl rfl sh_137 rfl rfl (Nat.le_of_ble_eq_true rfl) (Nat.le_of_ble_eq_true rfl) (by decide) ?_
        refine A_X12_pour e71 ?_
        show z_G (some (L, xs)) 29 mL_law 513 [some (.ref 0), some (.ref 2), some (.ref 139), some (.int x3)] [.int (z_tb q70.1), .int (z_tb q63.1)] q70.2 Q
        refine g_ic_eq (t := 1765) dL_law_513 (by decide) (fun c72 => ?_) (fun c72 => ?_)
        · replace h := z_ift c72 h
          refine g_iinc (v := x3 + (6 : Int32)) (ls' := [some (.ref 0), some (.ref 2), some (.ref 139), some (.int (x3 + (6 : Int32)))]) dL_law_1765 rfl rfl rfl ?_
          refine g_goto (t := 18) dL_law_1768 (by decide) ?_
          exact g_sub (z_sub_s (z_sub_s (z_sub_s (z_sub_s z_sub_nil)))) (ih _ _ _ _ _ h hq)
        · replace h := z_iff c72 h
          refine g_iconst (v := (0 : Int32)) dL_law_516 (by decide) ?_
          cases h
          exact g_iret dL_law_517 rfl rfl hq
      replace h := z_iff s57 h
      by_cases s73 : (xs x3.toNatClampNeg) &&& (63 : Int32) = (7 : Int32)
      · replace h := z_ift s73 h
        refine g_top (v := (7 : Int32)) s73 ?_
        refine g_tsIn (off := 485) (t := 518) dL_law_33 (by decide) (by decide) (by decide) ?_
        refine g_aload_n dL_law_518 rfl rfl ?_
        refine g_aload_n dL_law_519 rfl rfl ?_
        refine g_iload_n dL_law_520 rfl rfl ?_
        refine g_iconst (v := (1 : Int32)) dL_law_521 (by decide) ?_
        refine g_iadd dL_law_522 ?_
        by_cases g74 : (x3 + (1 : Int32)) < 0 ∨ L ≤ (x3 + (1 : Int32)).toNatClampNeg
        · rw [if_pos g74] at h; cases h
        replace h := z_iff g74 h
        refine g_sld dL_law_523 g74 ?_
        refine g_aload_n dL_law_524 rfl rfl ?_
        refine g_iload_n dL_law_525 rfl rfl ?_
        refine g_iconst (v := (2 : Int32)) dL_law_526 (by decide) ?_
        refine g_iadd dL_law_527 ?_
        by_cases g75 : (x3 + (2 : Int32)) < 0 ∨ L ≤ (x3 + (2 : Int32)).toNatClampNeg
        · rw [if_pos g75] at h; cases h
        replace h := z_iff g75 h
        refine g_sld dL_law_528 g75 ?_
        refine g_aload_n dL_law_529 rfl rfl ?_
        refine g_iload_n dL_law_530 rfl rfl ?_
        refine g_iconst (v := (3 : Int32)) dL_law_531 (by decide) ?_
        refine g_iadd dL_law_532 ?_
        by_cases g76 : (x3 + (3 : Int32)) < 0 ∨ L ≤ (x3 + (3 : Int32)).toNatClampNeg
        · rw [if_pos g76] at h; cases h
        replace h := z_iff g76 h
        refine g_sld dL_law_533 g76 ?_
        refine g_aload_n dL_law_534 rfl rfl ?_
        refine g_iload_n dL_law_535 rfl rfl ?_
        refine g_iconst (v := (4 : Int32)) dL_law_536 (by decide) ?_
        refine g_iadd dL_law_537 ?_
        by_cases g77 : (x3 + (4 : Int32)) < 0 ∨ L ≤ (x3 + (4 : Int32)).toNatClampNeg
        · rw [if_pos g77] at h; cases h
        replace h := z_iff g77 h
        refine g_sld dL_law_538 g77 ?_
        refine g_aload_n dL_law_539 rfl rfl ?_
        refine g_iload_n dL_law_540 rfl rfl ?_
        refine g_iconst (v := (5 : Int32)) dL_law_541 (by decide) ?_
        refine g_iadd dL_law_542 ?_
        by_cases g78 : (x3 + (5 : Int32)) < 0 ∨ L ≤ (x3 + (5 : Int32)).toNatClampNeg
        · rw [if_pos g78] at h; cases h
        replace h := z_iff g78 h
        refine g_sld dL_law_543 g78 ?_
        obtain ⟨q79, e80, h⟩ := z_bd h
        refine g_callV (a := 0) (as := [.int (xs (x3 + (1 : Int32)).toNatClampNeg), .int (xs (x3 + (2 : Int32)).toNatClampNeg), .int (xs (x3 + (3 : Int32)).toNatClampNeg), .int (xs (x3 + (4 : Int32)).toNatClampNeg), .int (xs (x3 + (5 : Int32)).toNatClampNeg)]) (rest := []) (c := mX11_feed) (k1 := 1) dL_law_544 rfl rfl rfl sh_0 rfl rfl (Nat.le_of_ble_eq_true rfl) (Nat.le_of_ble_eq_true rfl) (by decide) ?_
        refine A_X11_feed e80 ?_
        show z_G (some (L, xs)) 29 mL_law 547 [some (.ref 0), some (.ref 2), some (.ref 139), some (.int x3)] [.int q79.1] q79.2 Q
        refine g_aload_n dL_law_547 rfl rfl ?_
        refine g_aload_n dL_law_548 rfl rfl ?_
        refine g_iload_n dL_law_549 rfl rfl ?_
        refine g_iconst (v := (1 : Int32)) dL_law_550 (by decide) ?_
        refine g_iadd dL_law_551 ?_
        by_cases g81 : (x3 + (1 : Int32)) < 0 ∨ L ≤ (x3 + (1 : Int32)).toNatClampNeg
        · rw [if_pos g81] at h; cases h
        replace h := z_iff g81 h
        refine g_sld dL_law_552 g81 ?_
        refine g_aload_n dL_law_553 rfl rfl ?_
        refine g_iload_n dL_law_554 rfl rfl ?_
        refine g_iconst (v := (2 : Int32)) dL_law_555 (by decide) ?_
        refine g_iadd dL_law_556 ?_
        by_cases g82 : (x3 + (2 : Int32)) < 0 ∨ L ≤ (x3 + (2 : Int32)).toNatClampNeg
        · rw [if_pos g82] at h; cases h
        replace h := z_iff g82 h
        refine g_sld dL_law_557 g82 ?_
        refine g_aload_n dL_law_558 rfl rfl ?_
        refine g_iload_n dL_law_559 rfl rfl ?_
        refine g_iconst (v := (3 : Int32)) dL_law_560 (by decide) ?_
        refine g_iadd dL_law_561 ?_
        by_cases g83 : (x3 + (3 : Int32)) < 0 ∨ L ≤ (x3 + (3 : Int32)).toNatClampNeg
        · rw [if_pos g83] at h; cases h
        replace h := z_iff g83 h
        refine g_sld dL_law_562 g83 ?_
        refine g_aload_n dL_law_563 rfl rfl ?_
        refine g_iload_n dL_law_564 rfl rfl ?_
        refine g_iconst (v := (4 : Int32)) dL_law_565 (by decide) ?_
        refine g_iadd dL_law_566 ?_
        by_cases g84 : (x3 + (4 : Int32)) < 0 ∨ L ≤ (x3 + (4 : Int32)).toNatClampNeg
        · rw [if_pos g84] at h; cases h
        replace h := z_iff g84 h
        refine g_sld dL_law_567 g84 ?_
        refine g_aload_n dL_law_568 rfl rfl ?_
        refine g_iload_n dL_law_569 rfl rfl ?_
        refine g_iconst (v := (5 : Int32)) dL_law_570 (by decide) ?_
        refine g_iadd dL_law_571 ?_
        by_cases g85 : (x3 + (5 : Int32)) < 0 ∨ L ≤ (x3 + (5 : Int32)).toNatClampNeg
        · rw [if_pos g85] at h; cases h
        replace h := z_iff g85 h
        refine g_sld dL_law_572 g85 ?_
        obtain ⟨q86, e87, h⟩ := z_bd h
        refine g_callV (a := 137) (as := [.int (xs (x3 + (1 : Int32)).toNatClampNeg), .int (xs (x3 + (2 : Int32)).toNatClampNeg), .int (xs (x3 + (3 : Int32)).toNatClampNeg), .int (xs (x3 + (4 : Int32)).toNatClampNeg), .int (xs (x3 + (5 : Int32)).toNatClampNeg)]) (rest := [.int q79.1]) (c := mX12_feed) (k1 := 1) dL_law_573 rfl rfl rfl sh_137 rfl rfl (Nat.le_of_ble_eq_true rfl) (Nat.le_of_ble_eq_true rfl) (by decide) ?_
        refine A_X12_feed e87 ?_
        show z_G (some (L, xs)) 29 mL_law 576 [some (.ref 0), some (.ref 2), some (.ref 139), some (.int x3)] [.int q86.1, .int q79.1] q86.2 Q
        refine g_ic_eq (t := 1765) dL_law_576 (by decide) (fun c88 => ?_) (fun c88 => ?_)
        · replace h := z_ift c88 h
          refine g_iinc (v := x3 + (6 : Int32)) (ls' := [some (.ref 0), some (.ref 2), some (.ref 139), some (.int (x3 + (6 : Int32)))]) dL_law_1765 rfl rfl rfl ?_
          refine g_goto (t := 18) dL_law_1768 (by decide) ?_
          exact g_sub (z_sub_s (z_sub_s (z_sub_s (z_sub_s z_sub_nil)))) (ih _ _ _ _ _ h hq)
        · replace h := z_iff c88 h
          refine g_iconst (v := (0 : Int32)) dL_law_579 (by decide) ?_
          cases h
          exact g_iret dL_law_580 rfl rfl hq
      replace h := z_iff s73 h
      by_cases s89 : (xs x3.toNatClampNeg) &&& (63 : Int32) = (8 : Int32)
      · replace h := z_ift s89 h
        refine g_top (v := (8 : Int32)) s89 ?_
        refine g_tsIn (off := 548) (t := 581) dL_law_33 (by decide) (by decide) (by decide) ?_
        refine g_aload_n dL_law_581 rfl rfl ?_
        refine g_aload_n dL_law_582 rfl rfl ?_
        refine g_iload_n dL_law_583 rfl rfl ?_
        refine g_iconst (v := (1 : Int32)) dL_law_584 (by decide) ?_
        refine g_iadd dL_law_585 ?_
        by_cases g90 : (x3 + (1 : Int32)) < 0 ∨ L ≤ (x3 + (1 : Int32)).toNatClampNeg
        · rw [if_pos g90] at h; cases h
        replace h := z_iff g90 h
        refine g_sld dL_law_586 g90 ?_
        obtain ⟨q91, e92, h⟩ := z_bd h
        refine g_callV (a := 0) (as := [.int (xs (x3 + (1 : Int32)).toNatClampNeg)]) (rest := []) (c := mX11_parish) (k1 := 7) dL_law_587 rfl rfl rfl sh_0 rfl rfl (Nat.le_of_ble_eq_true rfl) (Nat.le_of_ble_eq_true rfl) (by decide) ?_
        refine A_X11_parish e92 ?_
        show z_G (some (L, xs)) 29 mL_law 590 [some (.ref 0), some (.ref 2), some (.ref 139), some (.int x3)] [.int q91.1] q91.2 Q
        refine g_aload_n dL_law_590 rfl rfl ?_
        refine g_aload_n dL_law_591 rfl rfl ?_
        refine g_iload_n dL_law_592 rfl rfl ?_
        refine g_iconst (v := (1 : Int32)) dL_law_593 (by decide) ?_
        refine g_iadd dL_law_594 ?_
        by_cases g93 : (x3 + (1 : Int32)) < 0 ∨ L ≤ (x3 + (1 : Int32)).toNatClampNeg
        · rw [if_pos g93] at h; cases h
        replace h := z_iff g93 h
        refine g_sld dL_law_595 g93 ?_
        obtain ⟨q94, e95, h⟩ := z_bd h
        refine g_callV (a := 137) (as := [.int (xs (x3 + (1 : Int32)).toNatClampNeg)]) (rest := [.int q91.1]) (c := mX12_parish) (k1 := 8) dL_law_596 rfl rfl rfl sh_137 rfl rfl (Nat.le_of_ble_eq_true rfl) (Nat.le_of_ble_eq_true rfl) (by decide) ?_
        refine A_X12_parish e95 ?_
        show z_G (some (L, xs)) 29 mL_law 599 [some (.ref 0), some (.ref 2), some (.ref 139), some (.int x3)] [.int q94.1, .int q91.1] q94.2 Q
        refine g_ic_eq (t := 1765) dL_law_599 (by decide) (fun c96 => ?_) (fun c96 => ?_)
        · replace h := z_ift c96 h
          refine g_iinc (v := x3 + (6 : Int32)) (ls' := [some (.ref 0), some (.ref 2), some (.ref 139), some (.int (x3 + (6 : Int32)))]) dL_law_1765 rfl rfl rfl ?_
          refine g_goto (t := 18) dL_law_1768 (by decide) ?_
          exact g_sub (z_sub_s (z_sub_s (z_sub_s (z_sub_s z_sub_nil)))) (ih _ _ _ _ _ h hq)
        · replace h := z_iff c96 h
          refine g_iconst (v := (0 : Int32)) dL_law_602 (by decide) ?_
          cases h
          exact g_iret dL_law_603 rfl rfl hq
      replace h := z_iff s89 h
      by_cases s97 : (xs x3.toNatClampNeg) &&& (63 : Int32) = (9 : Int32)
      · replace h := z_ift s97 h
        refine g_top (v := (9 : Int32)) s97 ?_
        refine g_tsIn (off := 571) (t := 604) dL_law_33 (by decide) (by decide) (by decide) ?_
        refine g_aload_n dL_law_604 rfl rfl ?_
        refine g_aload_n dL_law_605 rfl rfl ?_
        refine g_iload_n dL_law_606 rfl rfl ?_
        refine g_iconst (v := (1 : Int32)) dL_law_607 (by decide) ?_
        refine g_iadd dL_law_608 ?_
        by_cases g98 : (x3 + (1 : Int32)) < 0 ∨ L ≤ (x3 + (1 : Int32)).toNatClampNeg
        · rw [if_pos g98] at h; cases h
        replace h := z_iff g98 h
        refine g_sld dL_law_609 g98 ?_
        obtain ⟨q99, e100, h⟩ := z_bd h
        refine g_callV (a := 0) (as := [.int (xs (x3 + (1 : Int32)).toNatClampNeg)]) (rest := []) (c := mX11_years) (k1 := 7) dL_law_610 rfl rfl rfl sh_0 rfl rfl (Nat.le_of_ble_eq_true rfl) (Nat.le_of_ble_eq_true rfl) (by decide) ?_
        refine A_X11_years e100 ?_
        show z_G (some (L, xs)) 29 mL_law 613 [some (.ref 0), some (.ref 2), some (.ref 139), some (.int x3)] [.int q99.1] q99.2 Q
        refine g_aload_n dL_law_613 rfl rfl ?_
        refine g_aload_n dL_law_614 rfl rfl ?_
        refine g_iload_n dL_law_615 rfl rfl ?_
        refine g_iconst (v := (1 : Int32)) dL_law_616 (by decide) ?_
        refine g_iadd dL_law_617 ?_
        by_cases g101 : (x3 + (1 : Int32)) < 0 ∨ L ≤ (x3 + (1 : Int32)).toNatClampNeg
        · rw [if_pos g101] at h; cases h
        replace h := z_iff g101 h
        refine g_sld dL_law_618 g101 ?_
        obtain ⟨q102, e103, h⟩ := z_bd h
        refine g_callV (a := 137) (as := [.int (xs (x3 + (1 : Int32)).toNatClampNeg)]) (rest := [.int q99.1]) (c := mX12_years) (k1 := 16) dL_law_619 rfl rfl rfl sh_137 rfl rfl (Nat.le_of_ble_eq_true rfl) (Nat.le_of_ble_eq_true rfl) (by decide) ?_
        refine A_X12_years e103 ?_
        show z_G (some (L, xs)) 29 mL_law 622 [some (.ref 0), some (.ref 2), some (.ref 139), some (.int x3)] [.int q102.1, .int q99.1] q102.2 Q
        refine g_ic_eq (t := 1765) dL_law_622 (by decide) (fun c104 => ?_) (fun c104 => ?_)
        · replace h := z_ift c104 h
          refine g_iinc (v := x3 + (6 : Int32)) (ls' := [some (.ref 0), some (.ref 2), some (.ref 139), some (.int (x3 + (6 : Int32)))]) dL_law_1765 rfl rfl rfl ?_
          refine g_goto (t := 18) dL_law_1768 (by decide) ?_
          exact g_sub (z_sub_s (z_sub_s (z_sub_s (z_sub_s z_sub_nil)))) (ih _ _ _ _ _ h hq)
        · replace h := z_iff c104 h
          refine g_iconst (v := (0 : Int32)) dL_law_625 (by decide) ?_
          cases h
          exact g_iret dL_law_626 rfl rfl hq
      replace h := z_iff s97 h
      by_cases s105 : (xs x3.toNatClampNeg) &&& (63 : Int32) = (10 : Int32)
      · replace h := z_ift s105 h
        refine g_top (v := (10 : Int32)) s105 ?_
        refine g_tsIn (off := 594) (t := 627) dL_law_33 (by decide) (by decide) (by decide) ?_
        refine g_aload_n dL_law_627 rfl rfl ?_
        refine g_aload_n dL_law_628 rfl rfl ?_
        refine g_iload_n dL_law_629 rfl rfl ?_
        refine g_iconst (v := (1 : Int32)) dL_law_630 (by decide) ?_
        refine g_iadd dL_law_631 ?_
        by_cases g106 : (x3 + (1 : Int32)) < 0 ∨ L ≤ (x3 + (1 : Int32)).toNatClampNeg
        · rw [if_pos g106] at h; cases h
        replace h := z_iff g106 h
        refine g_sld dL_law_632 g106 ?_
        obtain ⟨q107, e108, h⟩ := z_bd h
        refine g_callV (a := 0) (as := [.int (xs (x3 + (1 : Int32)).toNatClampNeg)]) (rest := []) (c := mX11_fault) (k1 := 0) dL_law_633 rfl rfl rfl sh_0 rfl rfl (Nat.le_of_ble_eq_true rfl) (Nat.le_of_ble_eq_true rfl) (by decide) ?_
        refine A_X11_fault e108 ?_
        show z_G (some (L, xs)) 29 mL_law 636 [some (.ref 0), some (.ref 2), some (.ref 139), some (.int x3)] [.int q107.1] q107.2 Q
        refine g_aload_n dL_law_636 rfl rfl ?_
        refine g_aload_n dL_law_637 rfl rfl ?_
        refine g_iload_n dL_law_638 rfl rfl ?_
        refine g_iconst (v := (1 : Int32)) dL_law_639 (by decide) ?_
        refine g_iadd dL_law_640 ?_
        by_cases g109 : (x3 + (1 : Int32)) < 0 ∨ L ≤ (x3 + (1 : Int32)).toNatClampNeg
        · rw [if_pos g109] at h; cases h
        replace h := z_iff g109 h
        refine g_sld dL_law_641 g109 ?_
        obtain ⟨q110, e111, h⟩ := z_bd h
        refine g_callV (a := 137) (as := [.int (xs (x3 + (1 : Int32)).toNatClampNeg)]) (rest := [.int q107.1]) (c := mX12_fault) (k1 := 0) dL_law_642 rfl rfl rfl sh_137 rfl rfl (Nat.le_of_ble_eq_true rfl) (Nat.le_of_ble_eq_true rfl) (by decide) ?_
        refine A_X12_fault e111 ?_
        show z_G (some (L, xs)) 29 mL_law 645 [some (.ref 0), some (.ref 2), some (.ref 139), some (.int x3)] [.int q110.1, .int q107.1] q110.2 Q
        refine g_ic_eq (t := 1765) dL_law_645 (by decide) (fun c112 => ?_) (fun c112 => ?_)
        · replace h := z_ift c112 h
          refine g_iinc (v := x3 + (6 : Int32)) (ls' := [some (.ref 0), some (.ref 2), some (.ref 139), some (.int (x3 + (6 : Int32)))]) dL_law_1765 rfl rfl rfl ?_
          refine g_goto (t := 18) dL_law_1768 (by decide) ?_
          exact g_sub (z_sub_s (z_sub_s (z_sub_s (z_sub_s z_sub_nil)))) (ih _ _ _ _ _ h hq)
        · replace h := z_iff c112 h
          refine g_iconst (v := (0 : Int32)) dL_law_648 (by decide) ?_
          cases h
          exact g_iret dL_law_649 rfl rfl hq
      replace h := z_iff s105 h
      by_cases s113 : (xs x3.toNatClampNeg) &&& (63 : Int32) = (11 : Int32)
      · replace h := z_ift s113 h
        refine g_top (v := (11 : Int32)) s113 ?_
        refine g_tsIn (off := 617) (t := 650) dL_law_33 (by decide) (by decide) (by decide) ?_
        refine g_aload_n dL_law_650 rfl rfl ?_
        refine g_aload_n dL_law_651 rfl rfl ?_
        refine g_iload_n dL_law_652 rfl rfl ?_
        refine g_iconst (v := (1 : Int32)) dL_law_653 (by decide) ?_
        refine g_iadd dL_law_654 ?_
        by_cases g114 : (x3 + (1 : Int32)) < 0 ∨ L ≤ (x3 + (1 : Int32)).toNatClampNeg
        · rw [if_pos g114] at h; cases h
        replace h := z_iff g114 h
        refine g_sld dL_law_655 g114 ?_
        obtain ⟨q115, e116, h⟩ := z_bd h
        refine g_callV (a := 0) (as := [.int (xs (x3 + (1 : Int32)).toNatClampNeg)]) (rest := []) (c := mX11_many) (k1 := 1) dL_law_656 rfl rfl rfl sh_0 rfl rfl (Nat.le_of_ble_eq_true rfl) (Nat.le_of_ble_eq_true rfl) (by decide) ?_
        refine A_X11_many e116 ?_
        show z_G (some (L, xs)) 29 mL_law 659 [some (.ref 0), some (.ref 2), some (.ref 139), some (.int x3)] [.int q115.1] q115.2 Q
        refine g_aload_n dL_law_659 rfl rfl ?_
        refine g_aload_n dL_law_660 rfl rfl ?_
        refine g_iload_n dL_law_661 rfl rfl ?_
        refine g_iconst (v := (1 : Int32)) dL_law_662 (by decide) ?_
        refine g_iadd dL_law_663 ?_
        by_cases g117 : (x3 + (1 : Int32)) < 0 ∨ L ≤ (x3 + (1 : Int32)).toNatClampNeg
        · rw [if_pos g117] at h; cases h
        replace h := z_iff g117 h
        refine g_sld dL_law_664 g117 ?_
        obtain ⟨q118, e119, h⟩ := z_bd h
        refine g_callV (a := 137) (as := [.int (xs (x3 + (1 : Int32)).toNatClampNeg)]) (rest := [.int q115.1]) (c := mX12_many) (k1 := 1) dL_law_665 rfl rfl rfl sh_137 rfl rfl (Nat.le_of_ble_eq_true rfl) (Nat.le_of_ble_eq_true rfl) (by decide) ?_
        refine A_X12_many e119 ?_
        show z_G (some (L, xs)) 29 mL_law 668 [some (.ref 0), some (.ref 2), some (.ref 139), some (.int x3)] [.int q118.1, .int q115.1] q118.2 Q
        refine g_ic_eq (t := 1765) dL_law_668 (by decide) (fun c120 => ?_) (fun c120 => ?_)
        · replace h := z_ift c120 h
          refine g_iinc (v := x3 + (6 : Int32)) (ls' := [some (.ref 0), some (.ref 2), some (.ref 139), some (.int (x3 + (6 : Int32)))]) dL_law_1765 rfl rfl rfl ?_
          refine g_goto (t := 18) dL_law_1768 (by decide) ?_
          exact g_sub (z_sub_s (z_sub_s (z_sub_s (z_sub_s z_sub_nil)))) (ih _ _ _ _ _ h hq)
        · replace h := z_iff c120 h
          refine g_iconst (v := (0 : Int32)) dL_law_671 (by decide) ?_
          cases h
          exact g_iret dL_law_672 rfl rfl hq
      replace h := z_iff s113 h
      by_cases s121 : (xs x3.toNatClampNeg) &&& (63 : Int32) = (12 : Int32)
      · replace h := z_ift s121 h
        refine g_top (v := (12 : Int32)) s121 ?_
        refine g_tsIn (off := 640) (t := 673) dL_law_33 (by decide) (by decide) (by decide) ?_
        refine g_aload_n dL_law_673 rfl rfl ?_
        refine g_aload_n dL_law_674 rfl rfl ?_
        refine g_iload_n dL_law_675 rfl rfl ?_
        refine g_iconst (v := (1 : Int32)) dL_law_676 (by decide) ?_
        refine g_iadd dL_law_677 ?_
        by_cases g122 : (x3 + (1 : Int32)) < 0 ∨ L ≤ (x3 + (1 : Int32)).toNatClampNeg
        · rw [if_pos g122] at h; cases h
        replace h := z_iff g122 h
        refine g_sld dL_law_678 g122 ?_
        obtain ⟨q123, e124, h⟩ := z_bd h
        refine g_callV (a := 0) (as := [.int (xs (x3 + (1 : Int32)).toNatClampNeg)]) (rest := []) (c := mX11_chest) (k1 := 1) dL_law_679 rfl rfl rfl sh_0 rfl rfl (Nat.le_of_ble_eq_true rfl) (Nat.le_of_ble_eq_true rfl) (by decide) ?_
        refine A_X11_chest e124 ?_
        show z_G (some (L, xs)) 29 mL_law 682 [some (.ref 0), some (.ref 2), some (.ref 139), some (.int x3)] [.int q123.1] q123.2 Q
        refine g_aload_n dL_law_682 rfl rfl ?_
        refine g_aload_n dL_law_683 rfl rfl ?_
        refine g_iload_n dL_law_684 rfl rfl ?_
        refine g_iconst (v := (1 : Int32)) dL_law_685 (by decide) ?_
        refine g_iadd dL_law_686 ?_
        by_cases g125 : (x3 + (1 : Int32)) < 0 ∨ L ≤ (x3 + (1 : Int32)).toNatClampNeg
        · rw [if_pos g125] at h; cases h
        replace h := z_iff g125 h
        refine g_sld dL_law_687 g125 ?_
        obtain ⟨q126, e127, h⟩ := z_bd h
        refine g_callV (a := 137) (as := [.int (xs (x3 + (1 : Int32)).toNatClampNeg)]) (rest := [.int q123.1]) (c := mX12_chest) (k1 := 1) dL_law_688 rfl rfl rfl sh_137 rfl rfl (Nat.le_of_ble_eq_true rfl) (Nat.le_of_ble_eq_true rfl) (by decide) ?_
        refine A_X12_chest e127 ?_
        show z_G (some (L, xs)) 29 mL_law 691 [some (.ref 0), some (.ref 2), some (.ref 139), some (.int x3)] [.int q126.1, .int q123.1] q126.2 Q
        refine g_ic_eq (t := 1765) dL_law_691 (by decide) (fun c128 => ?_) (fun c128 => ?_)
        · replace h := z_ift c128 h
          refine g_iinc (v := x3 + (6 : Int32)) (ls' := [some (.ref 0), some (.ref 2), some (.ref 139), some (.int (x3 + (6 : Int32)))]) dL_law_1765 rfl rfl rfl ?_
          refine g_goto (t := 18) dL_law_1768 (by decide) ?_
          exact g_sub (z_sub_s (z_sub_s (z_sub_s (z_sub_s z_sub_nil)))) (ih _ _ _ _ _ h hq)
        · replace h := z_iff c128 h
          refine g_iconst (v := (0 : Int32)) dL_law_694 (by decide) ?_
          cases h
          exact g_iret dL_law_695 rfl rfl hq
      replace h := z_iff s121 h
      by_cases s129 : (xs x3.toNatClampNeg) &&& (63 : Int32) = (13 : Int32)
      · replace h := z_ift s129 h
        refine g_top (v := (13 : Int32)) s129 ?_
        refine g_tsIn (off := 663) (t := 696) dL_law_33 (by decide) (by decide) (by decide) ?_
        refine g_aload_n dL_law_696 rfl rfl ?_
        refine g_aload_n dL_law_697 rfl rfl ?_
        refine g_iload_n dL_law_698 rfl rfl ?_
        refine g_iconst (v := (1 : Int32)) dL_law_699 (by decide) ?_
        refine g_iadd dL_law_700 ?_
        by_cases g130 : (x3 + (1 : Int32)) < 0 ∨ L ≤ (x3 + (1 : Int32)).toNatClampNeg
        · rw [if_pos g130] at h; cases h
        replace h := z_iff g130 h
        refine g_sld dL_law_701 g130 ?_
        refine g_aload_n dL_law_702 rfl rfl ?_
        refine g_iload_n dL_law_703 rfl rfl ?_
        refine g_iconst (v := (2 : Int32)) dL_law_704 (by decide) ?_
        refine g_iadd dL_law_705 ?_
        by_cases g131 : (x3 + (2 : Int32)) < 0 ∨ L ≤ (x3 + (2 : Int32)).toNatClampNeg
        · rw [if_pos g131] at h; cases h
        replace h := z_iff g131 h
        refine g_sld dL_law_706 g131 ?_
        obtain ⟨q132, e133, h⟩ := z_bd h
        refine g_callV (a := 0) (as := [.int (xs (x3 + (1 : Int32)).toNatClampNeg), .int (xs (x3 + (2 : Int32)).toNatClampNeg)]) (rest := []) (c := mX11_right) (k1 := 1) dL_law_707 rfl rfl rfl sh_0 rfl rfl (Nat.le_of_ble_eq_true rfl) (Nat.le_of_ble_eq_true rfl) (by decide) ?_
        refine A_X11_right e133 ?_
        show z_G (some (L, xs)) 29 mL_law 710 [some (.ref 0), some (.ref 2), some (.ref 139), some (.int x3)] [.int q132.1] q132.2 Q
        refine g_aload_n dL_law_710 rfl rfl ?_
        refine g_aload_n dL_law_711 rfl rfl ?_
        refine g_iload_n dL_law_712 rfl rfl ?_
        refine g_iconst (v := (1 : Int32)) dL_law_713 (by decide) ?_
        refine g_iadd dL_law_714 ?_
        by_cases g134 : (x3 + (1 : Int32)) < 0 ∨ L ≤ (x3 + (1 : Int32)).toNatClampNeg
        · rw [if_pos g134] at h; cases h
        replace h := z_iff g134 h
        refine g_sld dL_law_715 g134 ?_
        refine g_aload_n dL_law_716 rfl rfl ?_
        refine g_iload_n dL_law_717 rfl rfl ?_
        refine g_iconst (v := (2 : Int32)) dL_law_718 (by decide) ?_
        refine g_iadd dL_law_719 ?_
        by_cases g135 : (x3 + (2 : Int32)) < 0 ∨ L ≤ (x3 + (2 : Int32)).toNatClampNeg
        · rw [if_pos g135] at h; cases h
        replace h := z_iff g135 h
        refine g_sld dL_law_720 g135 ?_
        obtain ⟨q136, e137, h⟩ := z_bd h
        refine g_callV (a := 137) (as := [.int (xs (x3 + (1 : Int32)).toNatClampNeg), .int (xs (x3 + (2 : Int32)).toNatClampNeg)]) (rest := [.int q132.1]) (c := mX12_right) (k1 := 2) dL_law_721 rfl rfl rfl sh_137 rfl rfl (Nat.le_of_ble_eq_true rfl) (Nat.le_of_ble_eq_true rfl) (by decide) ?_
        refine A_X12_right e137 ?_
        show z_G (some (L, xs)) 29 mL_law 724 [some (.ref 0), some (.ref 2), some (.ref 139), some (.int x3)] [.int q136.1, .int q132.1] q136.2 Q
        refine g_ic_eq (t := 1765) dL_law_724 (by decide) (fun c138 => ?_) (fun c138 => ?_)
        · replace h := z_ift c138 h
          refine g_iinc (v := x3 + (6 : Int32)) (ls' := [some (.ref 0), some (.ref 2), some (.ref 139), some (.int (x3 + (6 : Int32)))]) dL_law_1765 rfl rfl rfl ?_
          refine g_goto (t := 18) dL_law_1768 (by decide) ?_
          exact g_sub (z_sub_s (z_sub_s (z_sub_s (z_sub_s z_sub_nil)))) (ih _ _ _ _ _ h hq)
        · replace h := z_iff c138 h
          refine g_iconst (v := (0 : Int32)) dL_law_727 (by decide) ?_
          cases h
          exact g_iret dL_law_728 rfl rfl hq
      replace h := z_iff s129 h
      by_cases s139 : (xs x3.toNatClampNeg) &&& (63 : Int32) = (14 : Int32)
      · replace h := z_ift s139 h
        refine g_top (v := (14 : Int32)) s139 ?_
        refine g_tsIn (off := 696) (t := 729) dL_law_33 (by decide) (by decide) (by decide) ?_
        refine g_aload_n dL_law_729 rfl rfl ?_
        refine g_aload_n dL_law_730 rfl rfl ?_
        refine g_iload_n dL_law_731 rfl rfl ?_
        refine g_iconst (v := (1 : Int32)) dL_law_732 (by decide) ?_
        refine g_iadd dL_law_733 ?_
        by_cases g140 : (x3 + (1 : Int32)) < 0 ∨ L ≤ (x3 + (1 : Int32)).toNatClampNeg
        · rw [if_pos g140] at h; cases h
        replace h := z_iff g140 h
        refine g_sld dL_law_734 g140 ?_
        refine g_aload_n dL_law_735 rfl rfl ?_
        refine g_iload_n dL_law_736 rfl rfl ?_
        refine g_iconst (v := (2 : Int32)) dL_law_737 (by decide) ?_
        refine g_iadd dL_law_738 ?_
        by_cases g141 : (x3 + (2 : Int32)) < 0 ∨ L ≤ (x3 + (2 : Int32)).toNatClampNeg
        · rw [if_pos g141] at h; cases h
        replace h := z_iff g141 h
        refine g_sld dL_law_739 g141 ?_
        obtain ⟨q142, e143, h⟩ := z_bd h
        refine g_callV (a := 0) (as := [.int (xs (x3 + (1 : Int32)).toNatClampNeg), .int (xs (x3 + (2 : Int32)).toNatClampNeg)]) (rest := []) (c := mX11_debt) (k1 := 1) dL_law_740 rfl rfl rfl sh_0 rfl rfl (Nat.le_of_ble_eq_true rfl) (Nat.le_of_ble_eq_true rfl) (by decide) ?_
        refine A_X11_debt e143 ?_
        show z_G (some (L, xs)) 29 mL_law 743 [some (.ref 0), some (.ref 2), some (.ref 139), some (.int x3)] [.int q142.1] q142.2 Q
        refine g_aload_n dL_law_743 rfl rfl ?_
        refine g_aload_n dL_law_744 rfl rfl ?_
        refine g_iload_n dL_law_745 rfl rfl ?_
        refine g_iconst (v := (1 : Int32)) dL_law_746 (by decide) ?_
        refine g_iadd dL_law_747 ?_
        by_cases g144 : (x3 + (1 : Int32)) < 0 ∨ L ≤ (x3 + (1 : Int32)).toNatClampNeg
        · rw [if_pos g144] at h; cases h
        replace h := z_iff g144 h
        refine g_sld dL_law_748 g144 ?_
        refine g_aload_n dL_law_749 rfl rfl ?_
        refine g_iload_n dL_law_750 rfl rfl ?_
        refine g_iconst (v := (2 : Int32)) dL_law_751 (by decide) ?_
        refine g_iadd dL_law_752 ?_
        by_cases g145 : (x3 + (2 : Int32)) < 0 ∨ L ≤ (x3 + (2 : Int32)).toNatClampNeg
        · rw [if_pos g145] at h; cases h
        replace h := z_iff g145 h
        refine g_sld dL_law_753 g145 ?_
        obtain ⟨q146, e147, h⟩ := z_bd h
        refine g_callV (a := 137) (as := [.int (xs (x3 + (1 : Int32)).toNatClampNeg), .int (xs (x3 + (2 : Int32)).toNatClampNeg)]) (rest := [.int q142.1]) (c := mX12_debt) (k1 := 2) dL_law_754 rfl rfl rfl sh_137 rfl rfl (Nat.le_of_ble_eq_true rfl) (Nat.le_of_ble_eq_true rfl) (by decide) ?_
        refine A_X12_debt e147 ?_
        show z_G (some (L, xs)) 29 mL_law 757 [some (.ref 0), some (.ref 2), some (.ref 139), some (.int x3)] [.int q146.1, .int q142.1] q146.2 Q
        refine g_ic_eq (t := 1765) dL_law_757 (by decide) (fun c148 => ?_) (fun c148 => ?_)
        · replace h := z_ift c148 h
          refine g_iinc (v := x3 + (6 : Int32)) (ls' := [some (.ref 0), some (.ref 2), some (.ref 139), some (.int (x3 + (6 : Int32)))]) dL_law_1765 rfl rfl rfl ?_
          refine g_goto (t := 18) dL_law_1768 (by decide) ?_
          exact g_sub (z_sub_s (z_sub_s (z_sub_s (z_sub_s z_sub_nil)))) (ih _ _ _ _ _ h hq)
        · replace h := z_iff c148 h
          refine g_iconst (v := (0 : Int32)) dL_law_760 (by decide) ?_
          cases h
          exact g_iret dL_law_761 rfl rfl hq
      replace h := z_iff s139 h
      by_cases s149 : (xs x3.toNatClampNeg) &&& (63 : Int32) = (15 : Int32)
      · replace h := z_ift s149 h
        refine g_top (v := (15 : Int32)) s149 ?_
        refine g_tsIn (off := 729) (t := 762) dL_law_33 (by decide) (by decide) (by decide) ?_
        refine g_aload_n dL_law_762 rfl rfl ?_
        refine g_aload_n dL_law_763 rfl rfl ?_
        refine g_iload_n dL_law_764 rfl rfl ?_
        refine g_iconst (v := (1 : Int32)) dL_law_765 (by decide) ?_
        refine g_iadd dL_law_766 ?_
        by_cases g150 : (x3 + (1 : Int32)) < 0 ∨ L ≤ (x3 + (1 : Int32)).toNatClampNeg
        · rw [if_pos g150] at h; cases h
        replace h := z_iff g150 h
        refine g_sld dL_law_767 g150 ?_
        obtain ⟨q151, e152, h⟩ := z_bd h
        refine g_callV (a := 0) (as := [.int (xs (x3 + (1 : Int32)).toNatClampNeg)]) (rest := []) (c := mX11_owes) (k1 := 1) dL_law_768 rfl rfl rfl sh_0 rfl rfl (Nat.le_of_ble_eq_true rfl) (Nat.le_of_ble_eq_true rfl) (by decide) ?_
        refine A_X11_owes e152 ?_
        show z_G (some (L, xs)) 29 mL_law 771 [some (.ref 0), some (.ref 2), some (.ref 139), some (.int x3)] [.int q151.1] q151.2 Q
        refine g_aload_n dL_law_771 rfl rfl ?_
        refine g_aload_n dL_law_772 rfl rfl ?_
        refine g_iload_n dL_law_773 rfl rfl ?_
        refine g_iconst (v := (1 : Int32)) dL_law_774 (by decide) ?_
        refine g_iadd dL_law_775 ?_
        by_cases g153 : (x3 + (1 : Int32)) < 0 ∨ L ≤ (x3 + (1 : Int32)).toNatClampNeg
        · rw [if_pos g153] at h; cases h
        replace h := z_iff g153 h
        refine g_sld dL_law_776 g153 ?_
        obtain ⟨q154, e155, h⟩ := z_bd h
        refine g_callV (a := 137) (as := [.int (xs (x3 + (1 : Int32)).toNatClampNeg)]) (rest := [.int q151.1]) (c := mX12_owes) (k1 := 1) dL_law_777 rfl rfl rfl sh_137 rfl rfl (Nat.le_of_ble_eq_true rfl) (Nat.le_of_ble_eq_true rfl) (by decide) ?_
        refine A_X12_owes e155 ?_
        show z_G (some (L, xs)) 29 mL_law 780 [some (.ref 0), some (.ref 2), some (.ref 139), some (.int x3)] [.int q154.1, .int q151.1] q154.2 Q
        refine g_ic_eq (t := 1765) dL_law_780 (by decide) (fun c156 => ?_) (fun c156 => ?_)
        · replace h := z_ift c156 h
          refine g_iinc (v := x3 + (6 : Int32)) (ls' := [some (.ref 0), some (.ref 2), some (.ref 139), some (.int (x3 + (6 : Int32)))]) dL_law_1765 rfl rfl rfl ?_
          refine g_goto (t := 18) dL_law_1768 (by decide) ?_
          exact g_sub (z_sub_s (z_sub_s (z_sub_s (z_sub_s z_sub_nil)))) (ih _ _ _ _ _ h hq)
        · replace h := z_iff c156 h
          refine g_iconst (v := (0 : Int32)) dL_law_783 (by decide) ?_
          cases h
          exact g_iret dL_law_784 rfl rfl hq
      replace h := z_iff s149 h
      by_cases s157 : (xs x3.toNatClampNeg) &&& (63 : Int32) = (16 : Int32)
      · replace h := z_ift s157 h
        refine g_top (v := (16 : Int32)) s157 ?_
        refine g_tsIn (off := 752) (t := 785) dL_law_33 (by decide) (by decide) (by decide) ?_
        refine g_aload_n dL_law_785 rfl rfl ?_
        refine g_aload_n dL_law_786 rfl rfl ?_
        refine g_iload_n dL_law_787 rfl rfl ?_
        refine g_iconst (v := (1 : Int32)) dL_law_788 (by decide) ?_
        refine g_iadd dL_law_789 ?_
        by_cases g158 : (x3 + (1 : Int32)) < 0 ∨ L ≤ (x3 + (1 : Int32)).toNatClampNeg
        · rw [if_pos g158] at h; cases h
        replace h := z_iff g158 h
        refine g_sld dL_law_790 g158 ?_
        obtain ⟨q159, e160, h⟩ := z_bd h
        refine g_callV (a := 0) (as := [.int (xs (x3 + (1 : Int32)).toNatClampNeg)]) (rest := []) (c := mX11_layAgo) (k1 := 1) dL_law_791 rfl rfl rfl sh_0 rfl rfl (Nat.le_of_ble_eq_true rfl) (Nat.le_of_ble_eq_true rfl) (by decide) ?_
        refine A_X11_layAgo e160 ?_
        show z_G (some (L, xs)) 29 mL_law 794 [some (.ref 0), some (.ref 2), some (.ref 139), some (.int x3)] [.int q159.1] q159.2 Q
        refine g_aload_n dL_law_794 rfl rfl ?_
        refine g_aload_n dL_law_795 rfl rfl ?_
        refine g_iload_n dL_law_796 rfl rfl ?_
        refine g_iconst (v := (1 : Int32)) dL_law_797 (by decide) ?_
        refine g_iadd dL_law_798 ?_
        by_cases g161 : (x3 + (1 : Int32)) < 0 ∨ L ≤ (x3 + (1 : Int32)).toNatClampNeg
        · rw [if_pos g161] at h; cases h
        replace h := z_iff g161 h
        refine g_sld dL_law_799 g161 ?_
        obtain ⟨q162, e163, h⟩ := z_bd h
        refine g_callV (a := 137) (as := [.int (xs (x3 + (1 : Int32)).toNatClampNeg)]) (rest := [.int q159.1]) (c := mX12_layAgo) (k1 := 1) dL_law_800 rfl rfl rfl sh_137 rfl rfl (Nat.le_of_ble_eq_true rfl) (Nat.le_of_ble_eq_true rfl) (by decide) ?_
        refine A_X12_layAgo e163 ?_
        show z_G (some (L, xs)) 29 mL_law 803 [some (.ref 0), some (.ref 2), some (.ref 139), some (.int x3)] [.int q162.1, .int q159.1] q162.2 Q
        refine g_ic_eq (t := 1765) dL_law_803 (by decide) (fun c164 => ?_) (fun c164 => ?_)
        · replace h := z_ift c164 h
          refine g_iinc (v := x3 + (6 : Int32)) (ls' := [some (.ref 0), some (.ref 2), some (.ref 139), some (.int (x3 + (6 : Int32)))]) dL_law_1765 rfl rfl rfl ?_
          refine g_goto (t := 18) dL_law_1768 (by decide) ?_
          exact g_sub (z_sub_s (z_sub_s (z_sub_s (z_sub_s z_sub_nil)))) (ih _ _ _ _ _ h hq)
        · replace h := z_iff c164 h
          refine g_iconst (v := (0 : Int32)) dL_law_806 (by decide) ?_
          cases h
          exact g_iret dL_law_807 rfl rfl hq
      replace h := z_iff s157 h
      by_cases s165 : (xs x3.toNatClampNeg) &&& (63 : Int32) = (17 : Int32)
      · replace h := z_ift s165 h
        refine g_top (v := (17 : Int32)) s165 ?_
        refine g_tsIn (off := 775) (t := 808) dL_law_33 (by decide) (by decide) (by decide) ?_
        refine g_aload_n dL_law_808 rfl rfl ?_
        refine g_aload_n dL_law_809 rfl rfl ?_
        refine g_iload_n dL_law_810 rfl rfl ?_
        refine g_iconst (v := (1 : Int32)) dL_law_811 (by decide) ?_
        refine g_iadd dL_law_812 ?_
        by_cases g166 : (x3 + (1 : Int32)) < 0 ∨ L ≤ (x3 + (1 : Int32)).toNatClampNeg
        · rw [if_pos g166] at h; cases h
        replace h := z_iff g166 h
        refine g_sld dL_law_813 g166 ?_
        refine g_aload_n dL_law_814 rfl rfl ?_
        refine g_iload_n dL_law_815 rfl rfl ?_
        refine g_iconst (v := (2 : Int32)) dL_law_816 (by decide) ?_
        refine g_iadd dL_law_817 ?_
        by_cases g167 : (x3 + (2 : Int32)) < 0 ∨ L ≤ (x3 + (2 : Int32)).toNatClampNeg
        · rw [if_pos g167] at h; cases h
        replace h := z_iff g167 h
        refine g_sld dL_law_818 g167 ?_
        obtain ⟨q168, e169, h⟩ := z_bd h
        refine g_callV (a := 0) (as := [.int (xs (x3 + (1 : Int32)).toNatClampNeg), .int (xs (x3 + (2 : Int32)).toNatClampNeg)]) (rest := []) (c := mX11_clause) (k1 := 1) dL_law_819 rfl rfl rfl sh_0 rfl rfl (Nat.le_of_ble_eq_true rfl) (Nat.le_of_ble_eq_true rfl) (by decide) ?_
        refine A_X11_clause e169 ?_
        show z_G (some (L, xs)) 29 mL_law 822 [some (.ref 0), some (.ref 2), some (.ref 139), some (.int x3)] [.int q168.1] q168.2 Q
        refine g_aload_n dL_law_822 rfl rfl ?_
        refine g_aload_n dL_law_823 rfl rfl ?_
        refine g_iload_n dL_law_824 rfl rfl ?_
        refine g_iconst (v := (1 : Int32)) dL_law_825 (by decide) ?_
        refine g_iadd dL_law_826 ?_
        by_cases g170 : (x3 + (1 : Int32)) < 0 ∨ L ≤ (x3 + (1 : Int32)).toNatClampNeg
        · rw [if_pos g170] at h; cases h
        replace h := z_iff g170 h
        refine g_sld dL_law_827 g170 ?_
        refine g_aload_n dL_law_828 rfl rfl ?_
        refine g_iload_n dL_law_829 rfl rfl ?_
        refine g_iconst (v := (2 : Int32)) dL_law_830 (by decide) ?_
        refine g_iadd dL_law_831 ?_
        by_cases g171 : (x3 + (2 : Int32)) < 0 ∨ L ≤ (x3 + (2 : Int32)).toNatClampNeg
        · rw [if_pos g171] at h; cases h
        replace h := z_iff g171 h
        refine g_sld dL_law_832 g171 ?_
        obtain ⟨q172, e173, h⟩ := z_bd h
        refine g_callV (a := 137) (as := [.int (xs (x3 + (1 : Int32)).toNatClampNeg), .int (xs (x3 + (2 : Int32)).toNatClampNeg)]) (rest := [.int q168.1]) (c := mX12_clause) (k1 := 1) dL_law_833 rfl rfl rfl sh_137 rfl rfl (Nat.le_of_ble_eq_true rfl) (Nat.le_of_ble_eq_true rfl) (by decide) ?_
        refine A_X12_clause e173 ?_
        show z_G (some (L, xs)) 29 mL_law 836 [some (.ref 0), some (.ref 2), some (.ref 139), some (.int x3)] [.int q172.1, .int q168.1] q172.2 Q
        refine g_ic_eq (t := 1765) dL_law_836 (by decide) (fun c174 => ?_) (fun c174 => ?_)
        · replace h := z_ift c174 h
          refine g_iinc (v := x3 + (6 : Int32)) (ls' := [some (.ref 0), some (.ref 2), some (.ref 139), some (.int (x3 + (6 : Int32)))]) dL_law_1765 rfl rfl rfl ?_
          refine g_goto (t := 18) dL_law_1768 (by decide) ?_
          exact g_sub (z_sub_s (z_sub_s (z_sub_s (z_sub_s z_sub_nil)))) (ih _ _ _ _ _ h hq)
        · replace h := z_iff c174 h
          refine g_iconst (v := (0 : Int32)) dL_law_839 (by decide) ?_
          cases h
          exact g_iret dL_law_840 rfl rfl hq
      replace h := z_iff s165 h
      by_cases s175 : (xs x3.toNatClampNeg) &&& (63 : Int32) = (18 : Int32)
      · replace h := z_ift s175 h
        refine g_top (v := (18 : Int32)) s175 ?_
        refine g_tsIn (off := 808) (t := 841) dL_law_33 (by decide) (by decide) (by decide) ?_
        refine g_aload_n dL_law_841 rfl rfl ?_
        refine g_aload_n dL_law_842 rfl rfl ?_
        refine g_iload_n dL_law_843 rfl rfl ?_
        refine g_iconst (v := (1 : Int32)) dL_law_844 (by decide) ?_
        refine g_iadd dL_law_845 ?_
        by_cases g176 : (x3 + (1 : Int32)) < 0 ∨ L ≤ (x3 + (1 : Int32)).toNatClampNeg
        · rw [if_pos g176] at h; cases h
        replace h := z_iff g176 h
        refine g_sld dL_law_846 g176 ?_
        refine g_aload_n dL_law_847 rfl rfl ?_
        refine g_iload_n dL_law_848 rfl rfl ?_
        refine g_iconst (v := (2 : Int32)) dL_law_849 (by decide) ?_
        refine g_iadd dL_law_850 ?_
        by_cases g177 : (x3 + (2 : Int32)) < 0 ∨ L ≤ (x3 + (2 : Int32)).toNatClampNeg
        · rw [if_pos g177] at h; cases h
        replace h := z_iff g177 h
        refine g_sld dL_law_851 g177 ?_
        obtain ⟨q178, e179, h⟩ := z_bd h
        refine g_callV (a := 0) (as := [.int (xs (x3 + (1 : Int32)).toNatClampNeg), .int (xs (x3 + (2 : Int32)).toNatClampNeg)]) (rest := []) (c := mX11_witness) (k1 := 1) dL_law_852 rfl rfl rfl sh_0 rfl rfl (Nat.le_of_ble_eq_true rfl) (Nat.le_of_ble_eq_true rfl) (by decide) ?_
        refine A_X11_witness e179 ?_
        show z_G (some (L, xs)) 29 mL_law 855 [some (.ref 0), some (.ref 2), some (.ref 139), some (.int x3)] [.int q178.1] q178.2 Q
        refine g_aload_n dL_law_855 rfl rfl ?_
        refine g_aload_n dL_law_856 rfl rfl ?_
        refine g_iload_n dL_law_857 rfl rfl ?_
        refine g_iconst (v := (1 : Int32)) dL_law_858 (by decide) ?_
        refine g_iadd dL_law_859 ?_
        by_cases g180 : (x3 + (1 : Int32)) < 0 ∨ L ≤ (x3 + (1 : Int32)).toNatClampNeg
        · rw [if_pos g180] at h; cases h
        replace h := z_iff g180 h
        refine g_sld dL_law_860 g180 ?_
        refine g_aload_n dL_law_861 rfl rfl ?_
        refine g_iload_n dL_law_862 rfl rfl ?_
        refine g_iconst (v := (2 : Int32)) dL_law_863 (by decide) ?_
        refine g_iadd dL_law_864 ?_
        by_cases g181 : (x3 + (2 : Int32)) < 0 ∨ L ≤ (x3 + (2 : Int32)).toNatClampNeg
        · rw [if_pos g181] at h; cases h
        replace h := z_iff g181 h
        refine g_sld dL_law_865 g181 ?_
        obtain ⟨q182, e183, h⟩ := z_bd h
        refine g_callV (a := 137) (as := [.int (xs (x3 + (1 : Int32)).toNatClampNeg), .int (xs (x3 + (2 : Int32)).toNatClampNeg)]) (rest := [.int q178.1]) (c := mX12_witness) (k1 := 1) dL_law_866 rfl rfl rfl sh_137 rfl rfl (Nat.le_of_ble_eq_true rfl) (Nat.le_of_ble_eq_true rfl) (by decide) ?_
        refine A_X12_witness e183 ?_
        show z_G (some (L, xs)) 29 mL_law 869 [some (.ref 0), some (.ref 2), some (.ref 139), some (.int x3)] [.int q182.1, .int q178.1] q182.2 Q
        refine g_ic_eq (t := 1765) dL_law_869 (by decide) (fun c184 => ?_) (fun c184 => ?_)
        · replace h := z_ift c184 h
          refine g_iinc (v := x3 + (6 : Int32)) (ls' := [some (.ref 0), some (.ref 2), some (.ref 139), some (.int (x3 + (6 : Int32)))]) dL_law_1765 rfl rfl rfl ?_
          refine g_goto (t := 18) dL_law_1768 (by decide) ?_
          exact g_sub (z_sub_s (z_sub_s (z_sub_s (z_sub_s z_sub_nil)))) (ih _ _ _ _ _ h hq)
        · replace h := z_iff c184 h
          refine g_iconst (v := (0 : Int32)) dL_law_872 (by decide) ?_
          cases h
          exact g_iret dL_law_873 rfl rfl hq
      replace h := z_iff s175 h
      by_cases s185 : (xs x3.toNatClampNeg) &&& (63 : Int32) = (19 : Int32)
      · replace h := z_ift s185 h
        refine g_top (v := (19 : Int32)) s185 ?_
        refine g_tsIn (off := 841) (t := 874) dL_law_33 (by decide) (by decide) (by decide) ?_
        refine g_aload_n dL_law_874 rfl rfl ?_
        refine g_aload_n dL_law_875 rfl rfl ?_
        refine g_iload_n dL_law_876 rfl rfl ?_
        refine g_iconst (v := (1 : Int32)) dL_law_877 (by decide) ?_
        refine g_iadd dL_law_878 ?_
        by_cases g186 : (x3 + (1 : Int32)) < 0 ∨ L ≤ (x3 + (1 : Int32)).toNatClampNeg
        · rw [if_pos g186] at h; cases h
        replace h := z_iff g186 h
        refine g_sld dL_law_879 g186 ?_
        obtain ⟨q187, e188, h⟩ := z_bd h
        refine g_callV (a := 0) (as := [.int (xs (x3 + (1 : Int32)).toNatClampNeg)]) (rest := []) (c := mX11_copyWorth) (k1 := 2) dL_law_880 rfl rfl rfl sh_0 rfl rfl (Nat.le_of_ble_eq_true rfl) (Nat.le_of_ble_eq_true rfl) (by decide) ?_
        refine A_X11_copyWorth e188 ?_
        show z_G (some (L, xs)) 29 mL_law 883 [some (.ref 0), some (.ref 2), some (.ref 139), some (.int x3)] [.int q187.1] q187.2 Q
        refine g_aload_n dL_law_883 rfl rfl ?_
        refine g_aload_n dL_law_884 rfl rfl ?_
        refine g_iload_n dL_law_885 rfl rfl ?_
        refine g_iconst (v := (1 : Int32)) dL_law_886 (by decide) ?_
        refine g_iadd dL_law_887 ?_
        by_cases g189 : (x3 + (1 : Int32)) < 0 ∨ L ≤ (x3 + (1 : Int32)).toNatClampNeg
        · rw [if_pos g189] at h; cases h
        replace h := z_iff g189 h
        refine g_sld dL_law_888 g189 ?_
        obtain ⟨q190, e191, h⟩ := z_bd h
        refine g_callV (a := 137) (as := [.int (xs (x3 + (1 : Int32)).toNatClampNeg)]) (rest := [.int q187.1]) (c := mX12_copyWorth) (k1 := 3) dL_law_889 rfl rfl rfl sh_137 rfl rfl (Nat.le_of_ble_eq_true rfl) (Nat.le_of_ble_eq_true rfl) (by decide) ?_
        refine A_X12_copyWorth e191 ?_
        show z_G (some (L, xs)) 29 mL_law 892 [some (.ref 0), some (.ref 2), some (.ref 139), some (.int x3)] [.int q190.1, .int q187.1] q190.2 Q
        refine g_ic_eq (t := 1765) dL_law_892 (by decide) (fun c192 => ?_) (fun c192 => ?_)
        · replace h := z_ift c192 h
          refine g_iinc (v := x3 + (6 : Int32)) (ls' := [some (.ref 0), some (.ref 2), some (.ref 139), some (.int (x3 + (6 : Int32)))]) dL_law_1765 rfl rfl rfl ?_
          refine g_goto (t := 18) dL_law_1768 (by decide) ?_
          exact g_sub (z_sub_s (z_sub_s (z_sub_s (z_sub_s z_sub_nil)))) (ih _ _ _ _ _ h hq)
        · replace h := z_iff c192 h
          refine g_iconst (v := (0 : Int32)) dL_law_895 (by decide) ?_
          cases h
          exact g_iret dL_law_896 rfl rfl hq
      replace h := z_iff s185 h
      by_cases s193 : (xs x3.toNatClampNeg) &&& (63 : Int32) = (20 : Int32)
      · replace h := z_ift s193 h
        refine g_top (v := (20 : Int32)) s193 ?_
        refine g_tsIn (off := 864) (t := 897) dL_law_33 (by decide) (by decide) (by decide) ?_
        refine g_aload_n dL_law_897 rfl rfl ?_
        refine g_aload_n dL_law_898 rfl rfl ?_
        refine g_iload_n dL_law_899 rfl rfl ?_
        refine g_iconst (v := (1 : Int32)) dL_law_900 (by decide) ?_
        refine g_iadd dL_law_901 ?_
        by_cases g194 : (x3 + (1 : Int32)) < 0 ∨ L ≤ (x3 + (1 : Int32)).toNatClampNeg
        · rw [if_pos g194] at h; cases h
        replace h := z_iff g194 h
        refine g_sld dL_law_902 g194 ?_
        obtain ⟨q195, e196, h⟩ := z_bd h
        refine g_callV (a := 0) (as := [.int (xs (x3 + (1 : Int32)).toNatClampNeg)]) (rest := []) (c := mX11_month) (k1 := 4) dL_law_903 rfl rfl rfl sh_0 rfl rfl (Nat.le_of_ble_eq_true rfl) (Nat.le_of_ble_eq_true rfl) (by decide) ?_
        refine A_X11_month e196 ?_
        show z_G (some (L, xs)) 29 mL_law 906 [some (.ref 0), some (.ref 2), some (.ref 139), some (.int x3)] [.int q195.1] q195.2 Q
        refine g_aload_n dL_law_906 rfl rfl ?_
        refine g_aload_n dL_law_907 rfl rfl ?_
        refine g_iload_n dL_law_908 rfl rfl ?_
        refine g_iconst (v := (1 : Int32)) dL_law_909 (by decide) ?_
        refine g_iadd dL_law_910 ?_
        by_cases g197 : (x3 + (1 : Int32)) < 0 ∨ L ≤ (x3 + (1 : Int32)).toNatClampNeg
        · rw [if_pos g197] at h; cases h
        replace h := z_iff g197 h
        refine g_sld dL_law_911 g197 ?_
        obtain ⟨q198, e199, h⟩ := z_bd h
        refine g_callV (a := 137) (as := [.int (xs (x3 + (1 : Int32)).toNatClampNeg)]) (rest := [.int q195.1]) (c := mX12_month) (k1 := 4) dL_law_912 rfl rfl rfl sh_137 rfl rfl (Nat.le_of_ble_eq_true rfl) (Nat.le_of_ble_eq_true rfl) (by decide) ?_
        refine A_X12_month e199 ?_
        show z_G (some (L, xs)) 29 mL_law 915 [some (.ref 0), some (.ref 2), some (.ref 139), some (.int x3)] [.int q198.1, .int q195.1] q198.2 Q
        refine g_ic_eq (t := 1765) dL_law_915 (by decide) (fun c200 => ?_) (fun c200 => ?_)
        · replace h := z_ift c200 h
          refine g_iinc (v := x3 + (6 : Int32)) (ls' := [some (.ref 0), some (.ref 2), some (.ref 139), some (.int (x3 + (6 : Int32)))]) dL_law_1765 rfl rfl rfl ?_
          refine g_goto (t := 18) dL_law_1768 (by decide) ?_
          exact g_sub (z_sub_s (z_sub_s (z_sub_s (z_sub_s z_sub_nil)))) (ih _ _ _ _ _ h hq)
        · replace h := z_iff c200 h
          refine g_iconst (v := (0 : Int32)) dL_law_918 (by decide) ?_
          cases h
          exact g_iret dL_law_919 rfl rfl hq
      replace h := z_iff s193 h
      by_cases s201 : (xs x3.toNatClampNeg) &&& (63 : Int32) = (21 : Int32)
      · replace h := z_ift s201 h
        refine g_top (v := (21 : Int32)) s201 ?_
        refine g_tsIn (off := 887) (t := 920) dL_law_33 (by decide) (by decide) (by decide) ?_
        refine g_aload_n dL_law_920 rfl rfl ?_
        refine g_aload_n dL_law_921 rfl rfl ?_
        refine g_iload_n dL_law_922 rfl rfl ?_
        refine g_iconst (v := (1 : Int32)) dL_law_923 (by decide) ?_
        refine g_iadd dL_law_924 ?_
        by_cases g202 : (x3 + (1 : Int32)) < 0 ∨ L ≤ (x3 + (1 : Int32)).toNatClampNeg
        · rw [if_pos g202] at h; cases h
        replace h := z_iff g202 h
        refine g_sld dL_law_925 g202 ?_
        refine g_aload_n dL_law_926 rfl rfl ?_
        refine g_iload_n dL_law_927 rfl rfl ?_
        refine g_iconst (v := (2 : Int32)) dL_law_928 (by decide) ?_
        refine g_iadd dL_law_929 ?_
        by_cases g203 : (x3 + (2 : Int32)) < 0 ∨ L ≤ (x3 + (2 : Int32)).toNatClampNeg
        · rw [if_pos g203] at h; cases h
        replace h := z_iff g203 h
        refine g_sld dL_law_930 g203 ?_
        obtain ⟨q204, e205, h⟩ := z_bd h
        refine g_callV (a := 0) (as := [.int (xs (x3 + (1 : Int32)).toNatClampNeg), .int (xs (x3 + (2 : Int32)).toNatClampNeg)]) (rest := []) (c := mX11_carry) (k1 := 2) dL_law_931 rfl rfl rfl sh_0 rfl rfl (Nat.le_of_ble_eq_true rfl) (Nat.le_of_ble_eq_true rfl) (by decide) ?_
        refine A_X11_carry e205 ?_
        show z_G (some (L, xs)) 29 mL_law 934 [some (.ref 0), some (.ref 2), some (.ref 139), some (.int x3)] [.int q204.1] q204.2 Q
        refine g_aload_n dL_law_934 rfl rfl ?_
        refine g_aload_n dL_law_935 rfl rfl ?_
        refine g_iload_n dL_law_936 rfl rfl ?_
        refine g_iconst (v := (1 : Int32)) dL_law_937 (by decide) ?_
        refine g_iadd dL_law_938 ?_
        by_cases g206 : (x3 + (1 : Int32)) < 0 ∨ L ≤ (x3 + (1 : Int32)).toNatClampNeg
        · rw [if_pos g206] at h; cases h
        replace h := z_iff g206 h
        refine g_sld dL_law_939 g206 ?_
        refine g_aload_n dL_law_940 rfl rfl ?_
        refine g_iload_n dL_law_941 rfl rfl ?_
        refine g_iconst (v := (2 : Int32)) dL_law_942 (by decide) ?_
        refine g_iadd dL_law_943 ?_
        by_cases g207 : (x3 + (2 : Int32)) < 0 ∨ L ≤ (x3 + (2 : Int32)).toNatClampNeg
        · rw [if_pos g207] at h; cases h
        replace h := z_iff g207 h
        refine g_sld dL_law_944 g207 ?_
        obtain ⟨q208, e209, h⟩ := z_bd h
        refine g_callV (a := 137) (as := [.int (xs (x3 + (1 : Int32)).toNatClampNeg), .int (xs (x3 + (2 : Int32)).toNatClampNeg)]) (rest := [.int q204.1]) (c := mX12_carry) (k1 := 2) dL_law_945 rfl rfl rfl sh_137 rfl rfl (Nat.le_of_ble_eq_true rfl) (Nat.le_of_ble_eq_true rfl) (by decide) ?_
        refine A_X12_carry e209 ?_
        show z_G (some (L, xs)) 29 mL_law 948 [some (.ref 0), some (.ref 2), some (.ref 139), some (.int x3)] [.int q208.1, .int q204.1] q208.2 Q
        refine g_ic_eq (t := 1765) dL_law_948 (by decide) (fun c210 => ?_) (fun c210 => ?_)
        · replace h := z_ift c210 h
          refine g_iinc (v := x3 + (6 : Int32)) (ls' := [some (.ref 0), some (.ref 2), some (.ref 139), some (.int (x3 + (6 : Int32)))]) dL_law_1765 rfl rfl rfl ?_
          refine g_goto (t := 18) dL_law_1768 (by decide) ?_
          exact g_sub (z_sub_s (z_sub_s (z_sub_s (z_sub_s z_sub_nil)))) (ih _ _ _ _ _ h hq)
        · replace h := z_iff c210 h
          refine g_iconst (v := (0 : Int32)) dL_law_951 (by decide) ?_
          cases h
          exact g_iret dL_law_952 rfl rfl hq
      replace h := z_iff s201 h
      by_cases s211 : (xs x3.toNatClampNeg) &&& (63 : Int32) = (22 : Int32)
      · replace h := z_ift s211 h
        refine g_top (v := (22 : Int32)) s211 ?_
        refine g_tsIn (off := 920) (t := 953) dL_law_33 (by decide) (by decide) (by decide) ?_
        refine g_aload_n dL_law_953 rfl rfl ?_
        refine g_aload_n dL_law_954 rfl rfl ?_
        refine g_iload_n dL_law_955 rfl rfl ?_
        refine g_iconst (v := (1 : Int32)) dL_law_956 (by decide) ?_
        refine g_iadd dL_law_957 ?_
        by_cases g212 : (x3 + (1 : Int32)) < 0 ∨ L ≤ (x3 + (1 : Int32)).toNatClampNeg
        · rw [if_pos g212] at h; cases h
        replace h := z_iff g212 h
        refine g_sld dL_law_958 g212 ?_
        refine g_aload_n dL_law_959 rfl rfl ?_
        refine g_iload_n dL_law_960 rfl rfl ?_
        refine g_iconst (v := (2 : Int32)) dL_law_961 (by decide) ?_
        refine g_iadd dL_law_962 ?_
        by_cases g213 : (x3 + (2 : Int32)) < 0 ∨ L ≤ (x3 + (2 : Int32)).toNatClampNeg
        · rw [if_pos g213] at h; cases h
        replace h := z_iff g213 h
        refine g_sld dL_law_963 g213 ?_
        refine g_aload_n dL_law_964 rfl rfl ?_
        refine g_iload_n dL_law_965 rfl rfl ?_
        refine g_iconst (v := (3 : Int32)) dL_law_966 (by decide) ?_
        refine g_iadd dL_law_967 ?_
        by_cases g214 : (x3 + (3 : Int32)) < 0 ∨ L ≤ (x3 + (3 : Int32)).toNatClampNeg
        · rw [if_pos g214] at h; cases h
        replace h := z_iff g214 h
        refine g_sld dL_law_968 g214 ?_
        obtain ⟨q215, e216, h⟩ := z_bd h
        refine g_callV (a := 0) (as := [.int (xs (x3 + (1 : Int32)).toNatClampNeg), .int (xs (x3 + (2 : Int32)).toNatClampNeg), .int (xs (x3 + (3 : Int32)).toNatClampNeg)]) (rest := []) (c := mX11_swear) (k1 := 1) dL_law_969 rfl rfl rfl sh_0 rfl rfl (Nat.le_of_ble_eq_true rfl) (Nat.le_of_ble_eq_true rfl) (by decide) ?_
        refine A_X11_swear e216 ?_
        show z_G (some (L, xs)) 29 mL_law 972 [some (.ref 0), some (.ref 2), some (.ref 139), some (.int x3)] [.int q215.1] q215.2 Q
        refine g_aload_n dL_law_972 rfl rfl ?_
        refine g_aload_n dL_law_973 rfl rfl ?_
        refine g_iload_n dL_law_974 rfl rfl ?_
        refine g_iconst (v := (1 : Int32)) dL_law_975 (by decide) ?_
        refine g_iadd dL_law_976 ?_
        by_cases g217 : (x3 + (1 : Int32)) < 0 ∨ L ≤ (x3 + (1 : Int32)).toNatClampNeg
        · rw [if_pos g217] at h; cases h
        replace h := z_iff g217 h
        refine g_sld dL_law_977 g217 ?_
        refine g_aload_n dL_law_978 rfl rfl ?_
        refine g_iload_n dL_law_979 rfl rfl ?_
        refine g_iconst (v := (2 : Int32)) dL_law_980 (by decide) ?_
        refine g_iadd dL_law_981 ?_
        by_cases g218 : (x3 + (2 : Int32)) < 0 ∨ L ≤ (x3 + (2 : Int32)).toNatClampNeg
        · rw [if_pos g218] at h; cases h
        replace h := z_iff g218 h
        refine g_sld dL_law_982 g218 ?_
        refine g_aload_n dL_law_983 rfl rfl ?_
        refine g_iload_n dL_law_984 rfl rfl ?_
        refine g_iconst (v := (3 : Int32)) dL_law_985 (by decide) ?_
        refine g_iadd dL_law_986 ?_
        by_cases g219 : (x3 + (3 : Int32)) < 0 ∨ L ≤ (x3 + (3 : Int32)).toNatClampNeg
        · rw [if_pos g219] at h; cases h
        replace h := z_iff g219 h
        refine g_sld dL_law_987 g219 ?_
        obtain ⟨q220, e221, h⟩ := z_bd h
        refine g_callV (a := 137) (as := [.int (xs (x3 + (1 : Int32)).toNatClampNeg), .int (xs (x3 + (2 : Int32)).toNatClampNeg), .int (xs (x3 + (3 : Int32)).toNatClampNeg)]) (rest := [.int q215.1]) (c := mX12_swear) (k1 := 1) dL_law_988 rfl rfl rfl sh_137 rfl rfl (Nat.le_of_ble_eq_true rfl) (Nat.le_of_ble_eq_true rfl) (by decide) ?_
        refine A_X12_swear e221 ?_
        show z_G (some (L, xs)) 29 mL_law 991 [some (.ref 0), some (.ref 2), some (.ref 139), some (.int x3)] [.int q220.1, .int q215.1] q220.2 Q
        refine g_ic_eq (t := 1765) dL_law_991 (by decide) (fun c222 => ?_) (fun c222 => ?_)
        · replace h := z_ift c222 h
          refine g_iinc (v := x3 + (6 : Int32)) (ls' := [some (.ref 0), some (.ref 2), some (.ref 139), some (.int (x3 + (6 : Int32)))]) dL_law_1765 rfl rfl rfl ?_
          refine g_goto (t := 18) dL_law_1768 (by decide) ?_
          exact g_sub (z_sub_s (z_sub_s (z_sub_s (z_sub_s z_sub_nil)))) (ih _ _ _ _ _ h hq)
        · replace h := z_iff c222 h
          refine g_iconst (v := (0 : Int32)) dL_law_994 (by decide) ?_
          cases h
          exact g_iret dL_law_995 rfl rfl hq
      replace h := z_iff s211 h
      by_cases s223 : (xs x3.toNatClampNeg) &&& (63 : Int32) = (23 : Int32)
      · replace h := z_ift s223 h
        refine g_top (v := (23 : Int32)) s223 ?_
        refine g_tsIn (off := 963) (t := 996) dL_law_33 (by decide) (by decide) (by decide) ?_
        refine g_aload_n dL_law_996 rfl rfl ?_
        refine g_aload_n dL_law_997 rfl rfl ?_
        refine g_iload_n dL_law_998 rfl rfl ?_
        refine g_iconst (v := (1 : Int32)) dL_law_999 (by decide) ?_
        refine g_iadd dL_law_1000 ?_
        by_cases g224 : (x3 + (1 : Int32)) < 0 ∨ L ≤ (x3 + (1 : Int32)).toNatClampNeg
        · rw [if_pos g224] at h; cases h
        replace h := z_iff g224 h
        refine g_sld dL_law_1001 g224 ?_
        obtain ⟨q225, e226, h⟩ := z_bd h
        refine g_callV (a := 0) (as := [.int (xs (x3 + (1 : Int32)).toNatClampNeg)]) (rest := []) (c := mX11_pay) (k1 := 3) dL_law_1002 rfl rfl rfl sh_0 rfl rfl (Nat.le_of_ble_eq_true rfl) (Nat.le_of_ble_eq_true rfl) (by decide) ?_
        refine A_X11_pay e226 ?_
        show z_G (some (L, xs)) 29 mL_law 1005 [some (.ref 0), some (.ref 2), some (.ref 139), some (.int x3)] [.int q225.1] q225.2 Q
        refine g_aload_n dL_law_1005 rfl rfl ?_
        refine g_aload_n dL_law_1006 rfl rfl ?_
        refine g_iload_n dL_law_1007 rfl rfl ?_
        refine g_iconst (v := (1 : Int32)) dL_law_1008 (by decide) ?_
        refine g_iadd dL_law_1009 ?_
        by_cases g227 : (x3 + (1 : Int32)) < 0 ∨ L ≤ (x3 + (1 : Int32)).toNatClampNeg
        · rw [if_pos g227] at h; cases h
        replace h := z_iff g227 h
        refine g_sld dL_law_1010 g227 ?_
        obtain ⟨q228, e229, h⟩ := z_bd h
        refine g_callV (a := 137) (as := [.int (xs (x3 + (1 : Int32)).toNatClampNeg)]) (rest := [.int q225.1]) (c := mX12_pay) (k1 := 3) dL_law_1011 rfl rfl rfl sh_137 rfl rfl (Nat.le_of_ble_eq_true rfl) (Nat.le_of_ble_eq_true rfl) (by decide) ?_
        refine A_X12_pay e229 ?_
        show z_G (some (L, xs)) 29 mL_law 1014 [some (.ref 0), some (.ref 2), some (.ref 139), some (.int x3)] [.int q228.1, .int q225.1] q228.2 Q
        refine g_ic_eq (t := 1765) dL_law_1014 (by decide) (fun c230 => ?_) (fun c230 => ?_)
        · replace h := z_ift c230 h
          refine g_iinc (v := x3 + (6 : Int32)) (ls' := [some (.ref 0), some (.ref 2), some (.ref 139), some (.int (x3 + (6 : Int32)))]) dL_law_1765 rfl rfl rfl ?_
          refine g_goto (t := 18) dL_law_1768 (by decide) ?_
          exact g_sub (z_sub_s (z_sub_s (z_sub_s (z_sub_s z_sub_nil)))) (ih _ _ _ _ _ h hq)
        · replace h := z_iff c230 h
          refine g_iconst (v := (0 : Int32)) dL_law_1017 (by decide) ?_
          cases h
          exact g_iret dL_law_1018 rfl rfl hq
      replace h := z_iff s223 h
      by_cases s231 : (xs x3.toNatClampNeg) &&& (63 : Int32) = (24 : Int32)
      · replace h := z_ift s231 h
        refine g_top (v := (24 : Int32)) s231 ?_
        refine g_tsIn (off := 986) (t := 1019) dL_law_33 (by decide) (by decide) (by decide) ?_
        refine g_aload_n dL_law_1019 rfl rfl ?_
        refine g_aload_n dL_law_1020 rfl rfl ?_
        refine g_iload_n dL_law_1021 rfl rfl ?_
        refine g_iconst (v := (1 : Int32)) dL_law_1022 (by decide) ?_
        refine g_iadd dL_law_1023 ?_
        by_cases g232 : (x3 + (1 : Int32)) < 0 ∨ L ≤ (x3 + (1 : Int32)).toNatClampNeg
        · rw [if_pos g232] at h; cases h
        replace h := z_iff g232 h
        refine g_sld dL_law_1024 g232 ?_
        refine g_aload_n dL_law_1025 rfl rfl ?_
        refine g_iload_n dL_law_1026 rfl rfl ?_
        refine g_iconst (v := (2 : Int32)) dL_law_1027 (by decide) ?_
        refine g_iadd dL_law_1028 ?_
        by_cases g233 : (x3 + (2 : Int32)) < 0 ∨ L ≤ (x3 + (2 : Int32)).toNatClampNeg
        · rw [if_pos g233] at h; cases h
        replace h := z_iff g233 h
        refine g_sld dL_law_1029 g233 ?_
        obtain ⟨q234, e235, h⟩ := z_bd h
        refine g_callV (a := 0) (as := [.int (xs (x3 + (1 : Int32)).toNatClampNeg), .int (xs (x3 + (2 : Int32)).toNatClampNeg)]) (rest := []) (c := mX11_price) (k1 := 1) dL_law_1030 rfl rfl rfl sh_0 rfl rfl (Nat.le_of_ble_eq_true rfl) (Nat.le_of_ble_eq_true rfl) (by decide) ?_
        refine A_X11_price e235 ?_
        show z_G (some (L, xs)) 29 mL_law 1033 [some (.ref 0), some (.ref 2), some (.ref 139), some (.int x3)] [.int q234.1] q234.2 Q
        refine g_aload_n dL_law_1033 rfl rfl ?_
        refine g_aload_n dL_law_1034 rfl rfl ?_
        refine g_iload_n dL_law_1035 rfl rfl ?_
        refine g_iconst (v := (1 : Int32)) dL_law_1036 (by decide) ?_
        refine g_iadd dL_law_1037 ?_
        by_cases g236 : (x3 + (1 : Int32)) < 0 ∨ L ≤ (x3 + (1 : Int32)).toNatClampNeg
        · rw [if_pos g236] at h; cases h
        replace h := z_iff g236 h
        refine g_sld dL_law_1038 g236 ?_
        refine g_aload_n dL_law_1039 rfl rfl ?_
        refine g_iload_n dL_law_1040 rfl rfl ?_
        refine g_iconst (v := (2 : Int32)) dL_law_1041 (by decide) ?_
        refine g_iadd dL_law_1042 ?_
        by_cases g237 : (x3 + (2 : Int32)) < 0 ∨ L ≤ (x3 + (2 : Int32)).toNatClampNeg
        · rw [if_pos g237] at h; cases h
        replace h := z_iff g237 h
        refine g_sld dL_law_1043 g237 ?_
        obtain ⟨q238, e239, h⟩ := z_bd h
        refine g_callV (a := 137) (as := [.int (xs (x3 + (1 : Int32)).toNatClampNeg), .int (xs (x3 + (2 : Int32)).toNatClampNeg)]) (rest := [.int q234.1]) (c := mX12_price) (k1 := 2) dL_law_1044 rfl rfl rfl sh_137 rfl rfl (Nat.le_of_ble_eq_true rfl) (Nat.le_of_ble_eq_true rfl) (by decide) ?_
        refine A_X12_price e239 ?_
        show z_G (some (L, xs)) 29 mL_law 1047 [some (.ref 0), some (.ref 2), some (.ref 139), some (.int x3)] [.int q238.1, .int q234.1] q238.2 Q
        refine g_ic_eq (t := 1765) dL_law_1047 (by decide) (fun c240 => ?_) (fun c240 => ?_)
        · replace h := z_ift c240 h
          refine g_iinc (v := x3 + (6 : Int32)) (ls' := [some (.ref 0), some (.ref 2), some (.ref 139), some (.int (x3 + (6 : Int32)))]) dL_law_1765 rfl rfl rfl ?_
          refine g_goto (t := 18) dL_law_1768 (by decide) ?_
          exact g_sub (z_sub_s (z_sub_s (z_sub_s (z_sub_s z_sub_nil)))) (ih _ _ _ _ _ h hq)
        · replace h := z_iff c240 h
          refine g_iconst (v := (0 : Int32)) dL_law_1050 (by decide) ?_
          cases h
          exact g_iret dL_law_1051 rfl rfl hq
      replace h := z_iff s231 h
      by_cases s241 : (xs x3.toNatClampNeg) &&& (63 : Int32) = (25 : Int32)
      · replace h := z_ift s241 h
        refine g_top (v := (25 : Int32)) s241 ?_
        refine g_tsIn (off := 1019) (t := 1052) dL_law_33 (by decide) (by decide) (by decide) ?_
        refine g_aload_n dL_law_1052 rfl rfl ?_
        refine g_aload_n dL_law_1053 rfl rfl ?_
        refine g_iload_n dL_law_1054 rfl rfl ?_
        refine g_iconst (v := (1 : Int32)) dL_law_1055 (by decide) ?_
        refine g_iadd dL_law_1056 ?_
        by_cases g242 : (x3 + (1 : Int32)) < 0 ∨ L ≤ (x3 + (1 : Int32)).toNatClampNeg
        · rw [if_pos g242] at h; cases h
        replace h := z_iff g242 h
        refine g_sld dL_law_1057 g242 ?_
        refine g_aload_n dL_law_1058 rfl rfl ?_
        refine g_iload_n dL_law_1059 rfl rfl ?_
        refine g_iconst (v := (2 : Int32)) dL_law_1060 (by decide) ?_
        refine g_iadd dL_law_1061 ?_
        by_cases g243 : (x3 + (2 : Int32)) < 0 ∨ L ≤ (x3 + (2 : Int32)).toNatClampNeg
        · rw [if_pos g243] at h; cases h
        replace h := z_iff g243 h
        refine g_sld dL_law_1062 g243 ?_
        refine g_aload_n dL_law_1063 rfl rfl ?_
        refine g_iload_n dL_law_1064 rfl rfl ?_
        refine g_iconst (v := (3 : Int32)) dL_law_1065 (by decide) ?_
        refine g_iadd dL_law_1066 ?_
        by_cases g244 : (x3 + (3 : Int32)) < 0 ∨ L ≤ (x3 + (3 : Int32)).toNatClampNeg
        · rw [if_pos g244] at h; cases h
        replace h := z_iff g244 h
        refine g_sld dL_law_1067 g244 ?_
        refine g_if_eq (t := 1075) dL_law_1068 (by decide) (fun c245 => ?_) (fun c245 => ?_)
        · replace h := z_ift c245 h
          refine g_iconst (v := (0 : Int32)) dL_law_1075 (by decide) ?_
          obtain ⟨q246, e247, h⟩ := z_bd h
          refine g_callV (a := 0) (as := [.int (xs (x3 + (1 : Int32)).toNatClampNeg), .int (xs (x3 + (2 : Int32)).toNatClampNeg), .int (0 : Int32)]) (rest := []) (c := mX11_grant) (k1 := 1) dL_law_1076 rfl rfl rfl sh_0 rfl rfl (Nat.le_of_ble_eq_true rfl) (Nat.le_of_ble_eq_true rfl) (by decide) ?_
          refine A_X11_grant e247 ?_
          show z_G (some (L, xs)) 29 mL_law 1079 [some (.ref 0), some (.ref 2), some (.ref 139), some (.int x3)] [.int (z_tb q246.1)] q246.2 Q
          refine g_aload_n dL_law_1079 rfl rfl ?_
          refine g_aload_n dL_law_1080 rfl rfl ?_
          refine g_iload_n dL_law_1081 rfl rfl ?_
          refine g_iconst (v := (1 : Int32)) dL_law_1082 (by decide) ?_
          refine g_iadd dL_law_1083 ?_
          by_cases g248 : (x3 + (1 : Int32)) < 0 ∨ L ≤ (x3 + (1 : Int32)).toNatClampNeg
          · rw [if_pos g248] at h; cases h
          replace h := z_iff g248 h
          refine g_sld dL_law_1084 g248 ?_
          refine g_aload_n dL_law_1085 rfl rfl ?_
          refine g_iload_n dL_law_1086 rfl rfl ?_
          refine g_iconst (v := (2 : Int32)) dL_law_1087 (by decide) ?_
          refine g_iadd dL_law_1088 ?_
          by_cases g249 : (x3 + (2 : Int32)) < 0 ∨ L ≤ (x3 + (2 : Int32)).toNatClampNeg
          · rw [if_pos g249] at h; cases h
          replace h := z_iff g249 h
          refine g_sld dL_law_1089 g249 ?_
          refine g_aload_n dL_law_1090 rfl rfl ?_
          refine g_iload_n dL_law_1091 rfl rfl ?_
          refine g_iconst (v := (3 : Int32)) dL_law_1092 (by decide) ?_
          refine g_iadd dL_law_1093 ?_
          by_cases g250 : (x3 + (3 : Int32)) < 0 ∨ L ≤ (x3 + (3 : Int32)).toNatClampNeg
          · rw [if_pos g250] at h; cases h
          replace h := z_iff g250 h
          refine g_sld dL_law_1094 g250 ?_
          refine g_if_eq (t := 1102) dL_law_1095 (by decide) (fun c251 => ?_) (fun c251 => ?_)
          · replace h := z_ift c251 h
            refine g_iconst (v := (0 : Int32)) dL_law_1102 (by decide) ?_
            obtain ⟨q252, e253, h⟩ := z_bd h
            refine g_callV (a := 137) (as := [.int (xs (x3 + (1 : Int32)).toNatClampNeg), .int (xs (x3 + (2 : Int32)).toNatClampNeg), .int (0 : Int32)]) (rest := [.int (z_tb q246.1)]) (c := mX12_grant) (k1 := 2) dL_law_1103 rfl rfl rfl sh_137 rfl rfl (Nat.le_of_ble_eq_true rfl) (Nat.le_of_ble_eq_true rfl) (by decide) ?_
            refine A_X12_grant e253 ?_
            show z_G (some (L, xs)) 29 mL_law 1106 [some (.ref 0), some (.ref 2), some (.ref 139), some (.int x3)] [.int (z_tb q252.1), .int (z_tb q246.1)] q252.2 Q
            refine g_ic_eq (t := 1765) dL_law_1106 (by decide) (fun c254 => ?_) (fun c254 => ?_)
            · replace h := z_ift c254 h
              refine g_iinc (v := x3 + (6 : Int32)) (ls' := [some (.ref 0), some (.ref 2), some (.ref 139), some (.int (x3 + (6 : Int32)))]) dL_law_1765 rfl rfl rfl ?_
              refine g_goto (t := 18) dL_law_1768 (by decide) ?_
              exact g_sub (z_sub_s (z_sub_s (z_sub_s (z_sub_s z_sub_nil)))) (ih _ _ _ _ _ h hq)
            · replace h := z_iff c254 h
              refine g_iconst (v := (0 : Int32)) dL_law_1109 (by decide) ?_
              cases h
              exact g_iret dL_law_1110 rfl rfl hq
          · replace h := z_iff c251 h
            refine g_iconst (v := (1 : Int32)) dL_law_1098 (by decide) ?_
            refine g_goto (t := 1103) dL_law_1099 (by decide) ?_
            obtain ⟨q255, e256, h⟩ := z_bd h
            refine g_callV (a := 137) (as := [.int (xs (x3 + (1 : Int32)).toNatClampNeg), .int (xs (x3 + (2 : Int32)).toNatClampNeg), .int (1 : Int32)]) (rest := [.int (z_tb q246.1)]) (c := mX12_grant) (k1 := 2) dL_law_1103 rfl rfl rfl sh_137 rfl rfl (Nat.le_of_ble_eq_true rfl) (Nat.le_of_ble_eq_true rfl) (by decide) ?_
            refine A_X12_grant e256 ?_
            show z_G (some (L, xs)) 29 mL_law 1106 [some (.ref 0), some (.ref 2), some (.ref 139), some (.int x3)] [.int (z_tb q255.1), .int (z_tb q246.1)] q255.2 Q
            refine g_ic_eq (t := 1765) dL_law_1106 (by decide) (fun c257 => ?_) (fun c257 => ?_)
            · replace h := z_ift c257 h
              refine g_iinc (v := x3 + (6 : Int32)) (ls' := [some (.ref 0), some (.ref 2), some (.ref 139), some (.int (x3 + (6 : Int32)))]) dL_law_1765 rfl rfl rfl ?_
              refine g_goto (t := 18) dL_law_1768 (by decide) ?_
              exact g_sub (z_sub_s (z_sub_s (z_sub_s (z_sub_s z_sub_nil)))) (ih _ _ _ _ _ h hq)
            · replace h := z_iff c257 h
              refine g_iconst (v := (0 : Int32)) dL_law_1109 (by decide) ?_
              cases h
              exact g_iret dL_law_1110 rfl rfl hq
        · replace h := z_iff c245 h
          refine g_iconst (v := (1 : Int32)) dL_law_1071 (by decide) ?_
          refine g_goto (t := 1076) dL_law_1072 (by decide) ?_
          obtain ⟨q258, e259, h⟩ := z_bd h
          refine g_callV (a := 0) (as := [.int (xs (x3 + (1 : Int32)).toNatClampNeg), .int (xs (x3 + (2 : Int32)).toNatClampNeg), .int (1 : Int32)]) (rest := []) (c := mX11_grant) (k1 := 1) dL_law_1076 rfl rfl rfl sh_0 rfl rfl (Nat.le_of_ble_eq_true rfl) (Nat.le_of_ble_eq_true rfl) (by decide) ?_
          refine A_X11_grant e259 ?_
          show z_G (some (L, xs)) 29 mL_law 1079 [some (.ref 0), some (.ref 2), some (.ref 139), some (.int x3)] [.int (z_tb q258.1)] q258.2 Q
          refine g_aload_n dL_law_1079 rfl rfl ?_
          refine g_aload_n dL_law_1080 rfl rfl ?_
          refine g_iload_n dL_law_1081 rfl rfl ?_
          refine g_iconst (v := (1 : Int32)) dL_law_1082 (by decide) ?_
          refine g_iadd dL_law_1083 ?_
          by_cases g260 : (x3 + (1 : Int32)) < 0 ∨ L ≤ (x3 + (1 : Int32)).toNatClampNeg
          · rw [if_pos g260] at h; cases h
          replace h := z_iff g260 h
          refine g_sld dL_law_1084 g260 ?_
          refine g_aload_n dL_law_1085 rfl rfl ?_
          refine g_iload_n dL_law_1086 rfl rfl ?_
          refine g_iconst (v := (2 : Int32)) dL_law_1087 (by decide) ?_
          refine g_iadd dL_law_1088 ?_
          by_cases g261 : (x3 + (2 : Int32)) < 0 ∨ L ≤ (x3 + (2 : Int32)).toNatClampNeg
          · rw [if_pos g261] at h; cases h
          replace h := z_iff g261 h
          refine g_sld dL_law_1089 g261 ?_
          refine g_aload_n dL_law_1090 rfl rfl ?_
          refine g_iload_n dL_law_1091 rfl rfl ?_
          refine g_iconst (v := (3 : Int32)) dL_law_1092 (by decide) ?_
          refine g_iadd dL_law_1093 ?_
          by_cases g262 : (x3 + (3 : Int32)) < 0 ∨ L ≤ (x3 + (3 : Int32)).toNatClampNeg
          · rw [if_pos g262] at h; cases h
          replace h := z_iff g262 h
          refine g_sld dL_law_1094 g262 ?_
          refine g_if_eq (t := 1102) dL_law_1095 (by decide) (fun c263 => ?_) (fun c263 => ?_)
          · replace h := z_ift c263 h
            refine g_iconst (v := (0 : Int32)) dL_law_1102 (by decide) ?_
            obtain ⟨q264, e265, h⟩ := z_bd h
            refine g_callV (a := 137) (as := [.int (xs (x3 + (1 : Int32)).toNatClampNeg), .int (xs (x3 + (2 : Int32)).toNatClampNeg), .int (0 : Int32)]) (rest := [.int (z_tb q258.1)]) (c := mX12_grant) (k1 := 2) dL_law_1103 rfl rfl rfl sh_137 rfl rfl (Nat.le_of_ble_eq_true rfl) (Nat.le_of_ble_eq_true rfl) (by decide) ?_
            refine A_X12_grant e265 ?_
            show z_G (some (L, xs)) 29 mL_law 1106 [some (.ref 0), some (.ref 2), some (.ref 139), some (.int x3)] [.int (z_tb q264.1), .int (z_tb q258.1)] q264.2 Q
            refine g_ic_eq (t := 1765) dL_law_1106 (by decide) (fun c266 => ?_) (fun c266 => ?_)
            · replace h := z_ift c266 h
              refine g_iinc (v := x3 + (6 : Int32)) (ls' := [some (.ref 0), some (.ref 2), some (.ref 139), some (.int (x3 + (6 : Int32)))]) dL_law_1765 rfl rfl rfl ?_
              refine g_goto (t := 18) dL_law_1768 (by decide) ?_
              exact g_sub (z_sub_s (z_sub_s (z_sub_s (z_sub_s z_sub_nil)))) (ih _ _ _ _ _ h hq)
            · replace h := z_iff c266 h
              refine g_iconst (v := (0 : Int32)) dL_law_1109 (by decide) ?_
              cases h
              exact g_iret dL_law_1110 rfl rfl hq
          · replace h := z_iff c263 h
            refine g_iconst (v := (1 : Int32)) dL_law_1098 (by decide) ?_
            refine g_goto (t := 1103) dL_law_1099 (by decide) ?_
            obtain ⟨q267, e268, h⟩ := z_bd h
            refine g_callV (a := 137) (as := [.int (xs (x3 + (1 : Int32)).toNatClampNeg), .int (xs (x3 + (2 : Int32)).toNatClampNeg), .int (1 : Int32)]) (rest := [.int (z_tb q258.1)]) (c := mX12_grant) (k1 := 2) dL_law_1103 rfl rfl rfl sh_137 rfl rfl (Nat.le_of_ble_eq_true rfl) (Nat.le_of_ble_eq_true rfl) (by decide) ?_
            refine A_X12_grant e268 ?_
            show z_G (some (L, xs)) 29 mL_law 1106 [some (.ref 0), some (.ref 2), some (.ref 139), some (.int x3)] [.int (z_tb q267.1), .int (z_tb q258.1)] q267.2 Q
            refine g_ic_eq (t := 1765) dL_law_1106 (by decide) (fun c269 => ?_) (fun c269 => ?_)
            · replace h := z_ift c269 h
              refine g_iinc (v := x3 + (6 : Int32)) (ls' := [some (.ref 0), some (.ref 2), some (.ref 139), some (.int (x3 + (6 : Int32)))]) dL_law_1765 rfl rfl rfl ?_
              refine g_goto (t := 18) dL_law_1768 (by decide) ?_
              exact g_sub (z_sub_s (z_sub_s (z_sub_s (z_sub_s z_sub_nil)))) (ih _ _ _ _ _ h hq)
            · replace h := z_iff c269 h
              refine g_iconst (v := (0 : Int32)) dL_law_1109 (by decide) ?_
              cases h
              exact g_iret dL_law_1110 rfl rfl hq
      replace h := z_iff s241 h
      by_cases s270 : (xs x3.toNatClampNeg) &&& (63 : Int32) = (26 : Int32)
      · replace h := z_ift s270 h
        refine g_top (v := (26 : Int32)) s270 ?_
        refine g_tsIn (off := 1078) (t := 1111) dL_law_33 (by decide) (by decide) (by decide) ?_
        refine g_aload_n dL_law_1111 rfl rfl ?_
        refine g_aload_n dL_law_1112 rfl rfl ?_
        refine g_iload_n dL_law_1113 rfl rfl ?_
        refine g_iconst (v := (1 : Int32)) dL_law_1114 (by decide) ?_
        refine g_iadd dL_law_1115 ?_
        by_cases g271 : (x3 + (1 : Int32)) < 0 ∨ L ≤ (x3 + (1 : Int32)).toNatClampNeg
        · rw [if_pos g271] at h; cases h
        replace h := z_iff g271 h
        refine g_sld dL_law_1116 g271 ?_
        refine g_aload_n dL_law_1117 rfl rfl ?_
        refine g_iload_n dL_law_1118 rfl rfl ?_
        refine g_iconst (v := (2 : Int32)) dL_law_1119 (by decide) ?_
        refine g_iadd dL_law_1120 ?_
        by_cases g272 : (x3 + (2 : Int32)) < 0 ∨ L ≤ (x3 + (2 : Int32)).toNatClampNeg
        · rw [if_pos g272] at h; cases h
        replace h := z_iff g272 h
        refine g_sld dL_law_1121 g272 ?_
        refine g_aload_n dL_law_1122 rfl rfl ?_
        refine g_iload_n dL_law_1123 rfl rfl ?_
        refine g_iconst (v := (3 : Int32)) dL_law_1124 (by decide) ?_
        refine g_iadd dL_law_1125 ?_
        by_cases g273 : (x3 + (3 : Int32)) < 0 ∨ L ≤ (x3 + (3 : Int32)).toNatClampNeg
        · rw [if_pos g273] at h; cases h
        replace h := z_iff g273 h
        refine g_sld dL_law_1126 g273 ?_
        refine g_aload_n dL_law_1127 rfl rfl ?_
        refine g_iload_n dL_law_1128 rfl rfl ?_
        refine g_iconst (v := (4 : Int32)) dL_law_1129 (by decide) ?_
        refine g_iadd dL_law_1130 ?_
        by_cases g274 : (x3 + (4 : Int32)) < 0 ∨ L ≤ (x3 + (4 : Int32)).toNatClampNeg
        · rw [if_pos g274] at h; cases h
        replace h := z_iff g274 h
        refine g_sld dL_law_1131 g274 ?_
        refine g_aload_n dL_law_1132 rfl rfl ?_
        refine g_iload_n dL_law_1133 rfl rfl ?_
        refine g_iconst (v := (5 : Int32)) dL_law_1134 (by decide) ?_
        refine g_iadd dL_law_1135 ?_
        by_cases g275 : (x3 + (5 : Int32)) < 0 ∨ L ≤ (x3 + (5 : Int32)).toNatClampNeg
        · rw [if_pos g275] at h; cases h
        replace h := z_iff g275 h
        refine g_sld dL_law_1136 g275 ?_
        obtain ⟨q276, e277, h⟩ := z_bd h
        refine g_callV (a := 0) (as := [.int (xs (x3 + (1 : Int32)).toNatClampNeg), .int (xs (x3 + (2 : Int32)).toNatClampNeg), .int (xs (x3 + (3 : Int32)).toNatClampNeg), .int (xs (x3 + (4 : Int32)).toNatClampNeg), .int (xs (x3 + (5 : Int32)).toNatClampNeg)]) (rest := []) (c := mX11_claim) (k1 := 1) dL_law_1137 rfl rfl rfl sh_0 rfl rfl (Nat.le_of_ble_eq_true rfl) (Nat.le_of_ble_eq_true rfl) (by decide) ?_
        refine A_X11_claim e277 ?_
        show z_G (some (L, xs)) 29 mL_law 1140 [some (.ref 0), some (.ref 2), some (.ref 139), some (.int x3)] [.int q276.1] q276.2 Q
        refine g_aload_n dL_law_1140 rfl rfl ?_
        refine g_aload_n dL_law_1141 rfl rfl ?_
        refine g_iload_n dL_law_1142 rfl rfl ?_
        refine g_iconst (v := (1 : Int32)) dL_law_1143 (by decide) ?_
        refine g_iadd dL_law_1144 ?_
        by_cases g278 : (x3 + (1 : Int32)) < 0 ∨ L ≤ (x3 + (1 : Int32)).toNatClampNeg
        · rw [if_pos g278] at h; cases h
        replace h := z_iff g278 h
        refine g_sld dL_law_1145 g278 ?_
        refine g_aload_n dL_law_1146 rfl rfl ?_
        refine g_iload_n dL_law_1147 rfl rfl ?_
        refine g_iconst (v := (2 : Int32)) dL_law_1148 (by decide) ?_
        refine g_iadd dL_law_1149 ?_
        by_cases g279 : (x3 + (2 : Int32)) < 0 ∨ L ≤ (x3 + (2 : Int32)).toNatClampNeg
        · rw [if_pos g279] at h; cases h
        replace h := z_iff g279 h
        refine g_sld dL_law_1150 g279 ?_
        refine g_aload_n dL_law_1151 rfl rfl ?_
        refine g_iload_n dL_law_1152 rfl rfl ?_
        refine g_iconst (v := (3 : Int32)) dL_law_1153 (by decide) ?_
        refine g_iadd dL_law_1154 ?_
        by_cases g280 : (x3 + (3 : Int32)) < 0 ∨ L ≤ (x3 + (3 : Int32)).toNatClampNeg
        · rw [if_pos g280] at h; cases h
        replace h := z_iff g280 h
        refine g_sld dL_law_1155 g280 ?_
        refine g_aload_n dL_law_1156 rfl rfl ?_
        refine g_iload_n dL_law_1157 rfl rfl ?_
        refine g_iconst (v := (4 : Int32)) dL_law_1158 (by decide) ?_
        refine g_iadd dL_law_1159 ?_
        by_cases g281 : (x3 + (4 : Int32)) < 0 ∨ L ≤ (x3 + (4 : Int32)).toNatClampNeg
        · rw [if_pos g281] at h; cases h
        replace h := z_iff g281 h
        refine g_sld dL_law_1160 g281 ?_
        refine g_aload_n dL_law_1161 rfl rfl ?_
        refine g_iload_n dL_law_1162 rfl rfl ?_
        refine g_iconst (v := (5 : Int32)) dL_law_1163 (by decide) ?_
        refine g_iadd dL_law_1164 ?_
        by_cases g282 : (x3 + (5 : Int32)) < 0 ∨ L ≤ (x3 + (5 : Int32)).toNatClampNeg
        · rw [if_pos g282] at h; cases h
        replace h := z_iff g282 h
        refine g_sld dL_law_1165 g282 ?_
        obtain ⟨q283, e284, h⟩ := z_bd h
        refine g_callV (a := 137) (as := [.int (xs (x3 + (1 : Int32)).toNatClampNeg), .int (xs (x3 + (2 : Int32)).toNatClampNeg), .int (xs (x3 + (3 : Int32)).toNatClampNeg), .int (xs (x3 + (4 : Int32)).toNatClampNeg), .int (xs (x3 + (5 : Int32)).toNatClampNeg)]) (rest := [.int q276.1]) (c := mX12_claim) (k1 := 2) dL_law_1166 rfl rfl rfl sh_137 rfl rfl (Nat.le_of_ble_eq_true rfl) (Nat.le_of_ble_eq_true rfl) (by decide) ?_
        refine A_X12_claim e284 ?_
        show z_G (some (L, xs)) 29 mL_law 1169 [some (.ref 0), some (.ref 2), some (.ref 139), some (.int x3)] [.int q283.1, .int q276.1] q283.2 Q
        refine g_ic_eq (t := 1765) dL_law_1169 (by decide) (fun c285 => ?_) (fun c285 => ?_)
        · replace h := z_ift c285 h
          refine g_iinc (v := x3 + (6 : Int32)) (ls' := [some (.ref 0), some (.ref 2), some (.ref 139), some (.int (x3 + (6 : Int32)))]) dL_law_1765 rfl rfl rfl ?_
          refine g_goto (t := 18) dL_law_1768 (by decide) ?_
          exact g_sub (z_sub_s (z_sub_s (z_sub_s (z_sub_s z_sub_nil)))) (ih _ _ _ _ _ h hq)
        · replace h := z_iff c285 h
          refine g_iconst (v := (0 : Int32)) dL_law_1172 (by decide) ?_
          cases h
          exact g_iret dL_law_1173 rfl rfl hq
      replace h := z_iff s270 h
      by_cases s286 : (xs x3.toNatClampNeg) &&& (63 : Int32) = (27 : Int32)
      · replace h := z_ift s286 h
        refine g_top (v := (27 : Int32)) s286 ?_
        refine g_tsIn (off := 1141) (t := 1174) dL_law_33 (by decide) (by decide) (by decide) ?_
        refine g_aload_n dL_law_1174 rfl rfl ?_
        refine g_aload_n dL_law_1175 rfl rfl ?_
        refine g_iload_n dL_law_1176 rfl rfl ?_
        refine g_iconst (v := (1 : Int32)) dL_law_1177 (by decide) ?_
        refine g_iadd dL_law_1178 ?_
        by_cases g287 : (x3 + (1 : Int32)) < 0 ∨ L ≤ (x3 + (1 : Int32)).toNatClampNeg
        · rw [if_pos g287] at h; cases h
        replace h := z_iff g287 h
        refine g_sld dL_law_1179 g287 ?_
        refine g_aload_n dL_law_1180 rfl rfl ?_
        refine g_iload_n dL_law_1181 rfl rfl ?_
        refine g_iconst (v := (2 : Int32)) dL_law_1182 (by decide) ?_
        refine g_iadd dL_law_1183 ?_
        by_cases g288 : (x3 + (2 : Int32)) < 0 ∨ L ≤ (x3 + (2 : Int32)).toNatClampNeg
        · rw [if_pos g288] at h; cases h
        replace h := z_iff g288 h
        refine g_sld dL_law_1184 g288 ?_
        obtain ⟨q289, e290, h⟩ := z_bd h
        refine g_callV (a := 0) (as := [.int (xs (x3 + (1 : Int32)).toNatClampNeg), .int (xs (x3 + (2 : Int32)).toNatClampNeg)]) (rest := []) (c := mX11_rule) (k1 := 1) dL_law_1185 rfl rfl rfl sh_0 rfl rfl (Nat.le_of_ble_eq_true rfl) (Nat.le_of_ble_eq_true rfl) (by decide) ?_
        refine A_X11_rule e290 ?_
        show z_G (some (L, xs)) 29 mL_law 1188 [some (.ref 0), some (.ref 2), some (.ref 139), some (.int x3)] [.int (z_tb q289.1)] q289.2 Q
        refine g_aload_n dL_law_1188 rfl rfl ?_
        refine g_aload_n dL_law_1189 rfl rfl ?_
        refine g_iload_n dL_law_1190 rfl rfl ?_
        refine g_iconst (v := (1 : Int32)) dL_law_1191 (by decide) ?_
        refine g_iadd dL_law_1192 ?_
        by_cases g291 : (x3 + (1 : Int32)) < 0 ∨ L ≤ (x3 + (1 : Int32)).toNatClampNeg
        · rw [if_pos g291] at h; cases h
        replace h := z_iff g291 h
        refine g_sld dL_law_1193 g291 ?_
        refine g_aload_n dL_law_1194 rfl rfl ?_
        refine g_iload_n dL_law_1195 rfl rfl ?_
        refine g_iconst (v := (2 : Int32)) dL_law_1196 (by decide) ?_
        refine g_iadd dL_law_1197 ?_
        by_cases g292 : (x3 + (2 : Int32)) < 0 ∨ L ≤ (x3 + (2 : Int32)).toNatClampNeg
        · rw [if_pos g292] at h; cases h
        replace h := z_iff g292 h
        refine g_sld dL_law_1198 g292 ?_
        obtain ⟨q293, e294, h⟩ := z_bd h
        refine g_callV (a := 137) (as := [.int (xs (x3 + (1 : Int32)).toNatClampNeg), .int (xs (x3 + (2 : Int32)).toNatClampNeg)]) (rest := [.int (z_tb q289.1)]) (c := mX12_rule) (k1 := 1) dL_law_1199 rfl rfl rfl sh_137 rfl rfl (Nat.le_of_ble_eq_true rfl) (Nat.le_of_ble_eq_true rfl) (by decide) ?_
        refine A_X12_rule e294 ?_
        show z_G (some (L, xs)) 29 mL_law 1202 [some (.ref 0), some (.ref 2), some (.ref 139), some (.int x3)] [.int (z_tb q293.1), .int (z_tb q289.1)] q293.2 Q
        refine g_ic_eq (t := 1765) dL_law_1202 (by decide) (fun c295 => ?_) (fun c295 => ?_)
        · replace h := z_ift c295 h
          refine g_iinc (v := x3 + (6 : Int32)) (ls' := [some (.ref 0), some (.ref 2), some (.ref 139), some (.int (x3 + (6 : Int32)))]) dL_law_1765 rfl rfl rfl ?_
          refine g_goto (t := 18) dL_law_1768 (by decide) ?_
          exact g_sub (z_sub_s (z_sub_s (z_sub_s (z_sub_s z_sub_nil)))) (ih _ _ _ _ _ h hq)
        · replace h := z_iff c295 h
          refine g_iconst (v := (0 : Int32)) dL_law_1205 (by decide) ?_
          cases h
          exact g_iret dL_law_1206 rfl rfl hq
      replace h := z_iff s286 h
      by_cases s296 : (xs x3.toNatClampNeg) &&& (63 : Int32) = (28 : Int32)
      · replace h := z_ift s296 h
        refine g_top (v := (28 : Int32)) s296 ?_
        refine g_tsIn (off := 1174) (t := 1207) dL_law_33 (by decide) (by decide) (by decide) ?_
        refine g_aload_n dL_law_1207 rfl rfl ?_
        refine g_aload_n dL_law_1208 rfl rfl ?_
        refine g_iload_n dL_law_1209 rfl rfl ?_
        refine g_iconst (v := (1 : Int32)) dL_law_1210 (by decide) ?_
        refine g_iadd dL_law_1211 ?_
        by_cases g297 : (x3 + (1 : Int32)) < 0 ∨ L ≤ (x3 + (1 : Int32)).toNatClampNeg
        · rw [if_pos g297] at h; cases h
        replace h := z_iff g297 h
        refine g_sld dL_law_1212 g297 ?_
        refine g_aload_n dL_law_1213 rfl rfl ?_
        refine g_iload_n dL_law_1214 rfl rfl ?_
        refine g_iconst (v := (2 : Int32)) dL_law_1215 (by decide) ?_
        refine g_iadd dL_law_1216 ?_
        by_cases g298 : (x3 + (2 : Int32)) < 0 ∨ L ≤ (x3 + (2 : Int32)).toNatClampNeg
        · rw [if_pos g298] at h; cases h
        replace h := z_iff g298 h
        refine g_sld dL_law_1217 g298 ?_
        obtain ⟨q299, e300, h⟩ := z_bd h
        refine g_callV (a := 0) (as := [.int (xs (x3 + (1 : Int32)).toNatClampNeg), .int (xs (x3 + (2 : Int32)).toNatClampNeg)]) (rest := []) (c := mX11_chestIn) (k1 := 3) dL_law_1218 rfl rfl rfl sh_0 rfl rfl (Nat.le_of_ble_eq_true rfl) (Nat.le_of_ble_eq_true rfl) (by decide) ?_
        refine A_X11_chestIn e300 ?_
        show z_G (some (L, xs)) 29 mL_law 1221 [some (.ref 0), some (.ref 2), some (.ref 139), some (.int x3)] [.int q299.1] q299.2 Q
        refine g_aload_n dL_law_1221 rfl rfl ?_
        refine g_aload_n dL_law_1222 rfl rfl ?_
        refine g_iload_n dL_law_1223 rfl rfl ?_
        refine g_iconst (v := (1 : Int32)) dL_law_1224 (by decide) ?_
        refine g_iadd dL_law_1225 ?_
        by_cases g301 : (x3 + (1 : Int32)) < 0 ∨ L ≤ (x3 + (1 : Int32)).toNatClampNeg
        · rw [if_pos g301] at h; cases h
        replace h := z_iff g301 h
        refine g_sld dL_law_1226 g301 ?_
        refine g_aload_n dL_law_1227 rfl rfl ?_
        refine g_iload_n dL_law_1228 rfl rfl ?_
        refine g_iconst (v := (2 : Int32)) dL_law_1229 (by decide) ?_
        refine g_iadd dL_law_1230 ?_
        by_cases g302 : (x3 + (2 : Int32)) < 0 ∨ L ≤ (x3 + (2 : Int32)).toNatClampNeg
        · rw [if_pos g302] at h; cases h
        replace h := z_iff g302 h
        refine g_sld dL_law_1231 g302 ?_
        obtain ⟨q303, e304, h⟩ := z_bd h
        refine g_callV (a := 137) (as := [.int (xs (x3 + (1 : Int32)).toNatClampNeg), .int (xs (x3 + (2 : Int32)).toNatClampNeg)]) (rest := [.int q299.1]) (c := mX12_chestIn) (k1 := 4) dL_law_1232 rfl rfl rfl sh_137 rfl rfl (Nat.le_of_ble_eq_true rfl) (Nat.le_of_ble_eq_true rfl) (by decide) ?_
        refine A_X12_chestIn e304 ?_
        show z_G (some (L, xs)) 29 mL_law 1235 [some (.ref 0), some (.ref 2), some (.ref 139), some (.int x3)] [.int q303.1, .int q299.1] q303.2 Q
        refine g_ic_eq (t := 1765) dL_law_1235 (by decide) (fun c305 => ?_) (fun c305 => ?_)
        · replace h := z_ift c305 h
          refine g_iinc (v := x3 + (6 : Int32)) (ls' := [some (.ref 0), some (.ref 2), some (.ref 139), some (.int (x3 + (6 : Int32)))]) dL_law_1765 rfl rfl rfl ?_
          refine g_goto (t := 18) dL_law_1768 (by decide) ?_
          exact g_sub (z_sub_s (z_sub_s (z_sub_s (z_sub_s z_sub_nil)))) (ih _ _ _ _ _ h hq)
        · replace h := z_iff c305 h
          refine g_iconst (v := (0 : Int32)) dL_law_1238 (by decide) ?_
          cases h
          exact g_iret dL_law_1239 rfl rfl hq
      replace h := z_iff s296 h
      by_cases s306 : (xs x3.toNatClampNeg) &&& (63 : Int32) = (29 : Int32)
      · replace h := z_ift s306 h
        refine g_top (v := (29 : Int32)) s306 ?_
        refine g_tsIn (off := 1207) (t := 1240) dL_law_33 (by decide) (by decide) (by decide) ?_
        refine g_aload_n dL_law_1240 rfl rfl ?_
        obtain ⟨q307, e308, h⟩ := z_bd h
        refine g_callV (a := 0) (as := []) (rest := []) (c := mX11_tollIn) (k1 := 3) dL_law_1241 rfl rfl rfl sh_0 rfl rfl (Nat.le_of_ble_eq_true rfl) (Nat.le_of_ble_eq_true rfl) (by decide) ?_
        refine A_X11_tollIn e308 ?_
        show z_G (some (L, xs)) 29 mL_law 1244 [some (.ref 0), some (.ref 2), some (.ref 139), some (.int x3)] [.int q307.1] q307.2 Q
        refine g_aload_n dL_law_1244 rfl rfl ?_
        obtain ⟨q309, e310, h⟩ := z_bd h
        refine g_callV (a := 137) (as := []) (rest := [.int q307.1]) (c := mX12_tollIn) (k1 := 4) dL_law_1245 rfl rfl rfl sh_137 rfl rfl (Nat.le_of_ble_eq_true rfl) (Nat.le_of_ble_eq_true rfl) (by decide) ?_
        refine A_X12_tollIn e310 ?_
        show z_G (some (L, xs)) 29 mL_law 1248 [some (.ref 0), some (.ref 2), some (.ref 139), some (.int x3)] [.int q309.1, .int q307.1] q309.2 Q
        refine g_ic_eq (t := 1765) dL_law_1248 (by decide) (fun c311 => ?_) (fun c311 => ?_)
        · replace h := z_ift c311 h
          refine g_iinc (v := x3 + (6 : Int32)) (ls' := [some (.ref 0), some (.ref 2), some (.ref 139), some (.int (x3 + (6 : Int32)))]) dL_law_1765 rfl rfl rfl ?_
          refine g_goto (t := 18) dL_law_1768 (by decide) ?_
          exact g_sub (z_sub_s (z_sub_s (z_sub_s (z_sub_s z_sub_nil)))) (ih _ _ _ _ _ h hq)
        · replace h := z_iff c311 h
          refine g_iconst (v := (0 : Int32)) dL_law_1251 (by decide) ?_
          cases h
          exact g_iret dL_law_1252 rfl rfl hq
      replace h := z_iff s306 h
      by_cases s312 : (xs x3.toNatClampNeg) &&& (63 : Int32) = (30 : Int32)
      · replace h := z_ift s312 h
        refine g_top (v := (30 : Int32)) s312 ?_
        refine g_tsIn (off := 1220) (t := 1253) dL_law_33 (by decide) (by decide) (by decide) ?_
        refine g_aload_n dL_law_1253 rfl rfl ?_
        obtain ⟨q313, e314, h⟩ := z_bd h
        refine g_callV (a := 0) (as := []) (rest := []) (c := mX11_bears) (k1 := 2) dL_law_1254 rfl rfl rfl sh_0 rfl rfl (Nat.le_of_ble_eq_true rfl) (Nat.le_of_ble_eq_true rfl) (by decide) ?_
        refine A_X11_bears e314 ?_
        show z_G (some (L, xs)) 29 mL_law 1257 [some (.ref 0), some (.ref 2), some (.ref 139), some (.int x3)] [.int q313.1] q313.2 Q
        refine g_aload_n dL_law_1257 rfl rfl ?_
        obtain ⟨q315, e316, h⟩ := z_bd h
        refine g_callV (a := 137) (as := []) (rest := [.int q313.1]) (c := mX12_bears) (k1 := 3) dL_law_1258 rfl rfl rfl sh_137 rfl rfl (Nat.le_of_ble_eq_true rfl) (Nat.le_of_ble_eq_true rfl) (by decide) ?_
        refine A_X12_bears e316 ?_
        show z_G (some (L, xs)) 29 mL_law 1261 [some (.ref 0), some (.ref 2), some (.ref 139), some (.int x3)] [.int q315.1, .int q313.1] q315.2 Q
        refine g_ic_eq (t := 1765) dL_law_1261 (by decide) (fun c317 => ?_) (fun c317 => ?_)
        · replace h := z_ift c317 h
          refine g_iinc (v := x3 + (6 : Int32)) (ls' := [some (.ref 0), some (.ref 2), some (.ref 139), some (.int (x3 + (6 : Int32)))]) dL_law_1765 rfl rfl rfl ?_
          refine g_goto (t := 18) dL_law_1768 (by decide) ?_
          exact g_sub (z_sub_s (z_sub_s (z_sub_s (z_sub_s z_sub_nil)))) (ih _ _ _ _ _ h hq)
        · replace h := z_iff c317 h
          refine g_iconst (v := (0 : Int32)) dL_law_1264 (by decide) ?_
          cases h
          exact g_iret dL_law_1265 rfl rfl hq
      replace h := z_iff s312 h
      by_cases s318 : (xs x3.toNatClampNeg) &&& (63 : Int32) = (31 : Int32)
      · replace h := z_ift s318 h
        refine g_top (v := (31 : Int32)) s318 ?_
        refine g_tsIn (off := 1233) (t := 1266) dL_law_33 (by decide) (by decide) (by decide) ?_
        refine g_aload_n dL_law_1266 rfl rfl ?_
        refine g_aload_n dL_law_1267 rfl rfl ?_
        refine g_iload_n dL_law_1268 rfl rfl ?_
        refine g_iconst (v := (1 : Int32)) dL_law_1269 (by decide) ?_
        refine g_iadd dL_law_1270 ?_
        by_cases g319 : (x3 + (1 : Int32)) < 0 ∨ L ≤ (x3 + (1 : Int32)).toNatClampNeg
        · rw [if_pos g319] at h; cases h
        replace h := z_iff g319 h
        refine g_sld dL_law_1271 g319 ?_
        refine g_aload_n dL_law_1272 rfl rfl ?_
        refine g_iload_n dL_law_1273 rfl rfl ?_
        refine g_iconst (v := (2 : Int32)) dL_law_1274 (by decide) ?_
        refine g_iadd dL_law_1275 ?_
        by_cases g320 : (x3 + (2 : Int32)) < 0 ∨ L ≤ (x3 + (2 : Int32)).toNatClampNeg
        · rw [if_pos g320] at h; cases h
        replace h := z_iff g320 h
        refine g_sld dL_law_1276 g320 ?_
        obtain ⟨q321, e322, h⟩ := z_bd h
        refine g_callV (a := 0) (as := [.int (xs (x3 + (1 : Int32)).toNatClampNeg), .int (xs (x3 + (2 : Int32)).toNatClampNeg)]) (rest := []) (c := mX11_gain) (k1 := 3) dL_law_1277 rfl rfl rfl sh_0 rfl rfl (Nat.le_of_ble_eq_true rfl) (Nat.le_of_ble_eq_true rfl) (by decide) ?_
        refine A_X11_gain e322 ?_
        show z_G (some (L, xs)) 29 mL_law 1280 [some (.ref 0), some (.ref 2), some (.ref 139), some (.int x3)] [.int q321.1] q321.2 Q
        refine g_aload_n dL_law_1280 rfl rfl ?_
        refine g_aload_n dL_law_1281 rfl rfl ?_
        refine g_iload_n dL_law_1282 rfl rfl ?_
        refine g_iconst (v := (1 : Int32)) dL_law_1283 (by decide) ?_
        refine g_iadd dL_law_1284 ?_
        by_cases g323 : (x3 + (1 : Int32)) < 0 ∨ L ≤ (x3 + (1 : Int32)).toNatClampNeg
        · rw [if_pos g323] at h; cases h
        replace h := z_iff g323 h
        refine g_sld dL_law_1285 g323 ?_
        refine g_aload_n dL_law_1286 rfl rfl ?_
        refine g_iload_n dL_law_1287 rfl rfl ?_
        refine g_iconst (v := (2 : Int32)) dL_law_1288 (by decide) ?_
        refine g_iadd dL_law_1289 ?_
        by_cases g324 : (x3 + (2 : Int32)) < 0 ∨ L ≤ (x3 + (2 : Int32)).toNatClampNeg
        · rw [if_pos g324] at h; cases h
        replace h := z_iff g324 h
        refine g_sld dL_law_1290 g324 ?_
        obtain ⟨q325, e326, h⟩ := z_bd h
        refine g_callV (a := 137) (as := [.int (xs (x3 + (1 : Int32)).toNatClampNeg), .int (xs (x3 + (2 : Int32)).toNatClampNeg)]) (rest := [.int q321.1]) (c := mX12_gain) (k1 := 3) dL_law_1291 rfl rfl rfl sh_137 rfl rfl (Nat.le_of_ble_eq_true rfl) (Nat.le_of_ble_eq_true rfl) (by decide) ?_
        refine A_X12_gain e326 ?_
        show z_G (some (L, xs)) 29 mL_law 1294 [some (.ref 0), some (.ref 2), some (.ref 139), some (.int x3)] [.int q325.1, .int q321.1] q325.2 Q
        refine g_ic_eq (t := 1765) dL_law_1294 (by decide) (fun c327 => ?_) (fun c327 => ?_)
        · replace h := z_ift c327 h
          refine g_iinc (v := x3 + (6 : Int32)) (ls' := [some (.ref 0), some (.ref 2), some (.ref 139), some (.int (x3 + (6 : Int32)))]) dL_law_1765 rfl rfl rfl ?_
          refine g_goto (t := 18) dL_law_1768 (by decide) ?_
          exact g_sub (z_sub_s (z_sub_s (z_sub_s (z_sub_s z_sub_nil)))) (ih _ _ _ _ _ h hq)
        · replace h := z_iff c327 h
          refine g_iconst (v := (0 : Int32)) dL_law_1297 (by decide) ?_
          cases h
          exact g_iret dL_law_1298 rfl rfl hq
      replace h := z_iff s318 h
      by_cases s328 : (xs x3.toNatClampNeg) &&& (63 : Int32) = (32 : Int32)
      · replace h := z_ift s328 h
        refine g_top (v := (32 : Int32)) s328 ?_
        refine g_tsIn (off := 1266) (t := 1299) dL_law_33 (by decide) (by decide) (by decide) ?_
        refine g_aload_n dL_law_1299 rfl rfl ?_
        refine g_aload_n dL_law_1300 rfl rfl ?_
        refine g_iload_n dL_law_1301 rfl rfl ?_
        refine g_iconst (v := (1 : Int32)) dL_law_1302 (by decide) ?_
        refine g_iadd dL_law_1303 ?_
        by_cases g329 : (x3 + (1 : Int32)) < 0 ∨ L ≤ (x3 + (1 : Int32)).toNatClampNeg
        · rw [if_pos g329] at h; cases h
        replace h := z_iff g329 h
        refine g_sld dL_law_1304 g329 ?_
        obtain ⟨q330, e331, h⟩ := z_bd h
        refine g_callV (a := 0) (as := [.int (xs (x3 + (1 : Int32)).toNatClampNeg)]) (rest := []) (c := mX11_changes) (k1 := 2) dL_law_1305 rfl rfl rfl sh_0 rfl rfl (Nat.le_of_ble_eq_true rfl) (Nat.le_of_ble_eq_true rfl) (by decide) ?_
        refine A_X11_changes e331 ?_
        show z_G (some (L, xs)) 29 mL_law 1308 [some (.ref 0), some (.ref 2), some (.ref 139), some (.int x3)] [.int q330.1] q330.2 Q
        refine g_aload_n dL_law_1308 rfl rfl ?_
        refine g_aload_n dL_law_1309 rfl rfl ?_
        refine g_iload_n dL_law_1310 rfl rfl ?_
        refine g_iconst (v := (1 : Int32)) dL_law_1311 (by decide) ?_
        refine g_iadd dL_law_1312 ?_
        by_cases g332 : (x3 + (1 : Int32)) < 0 ∨ L ≤ (x3 + (1 : Int32)).toNatClampNeg
        · rw [if_pos g332] at h; cases h
        replace h := z_iff g332 h
        refine g_sld dL_law_1313 g332 ?_
        obtain ⟨q333, e334, h⟩ := z_bd h
        refine g_callV (a := 137) (as := [.int (xs (x3 + (1 : Int32)).toNatClampNeg)]) (rest := [.int q330.1]) (c := mX12_changes) (k1 := 2) dL_law_1314 rfl rfl rfl sh_137 rfl rfl (Nat.le_of_ble_eq_true rfl) (Nat.le_of_ble_eq_true rfl) (by decide) ?_
        refine A_X12_changes e334 ?_
        show z_G (some (L, xs)) 29 mL_law 1317 [some (.ref 0), some (.ref 2), some (.ref 139), some (.int x3)] [.int q333.1, .int q330.1] q333.2 Q
        refine g_ic_eq (t := 1765) dL_law_1317 (by decide) (fun c335 => ?_) (fun c335 => ?_)
        · replace h := z_ift c335 h
          refine g_iinc (v := x3 + (6 : Int32)) (ls' := [some (.ref 0), some (.ref 2), some (.ref 139), some (.int (x3 + (6 : Int32)))]) dL_law_1765 rfl rfl rfl ?_
          refine g_goto (t := 18) dL_law_1768 (by decide) ?_
          exact g_sub (z_sub_s (z_sub_s (z_sub_s (z_sub_s z_sub_nil)))) (ih _ _ _ _ _ h hq)
        · replace h := z_iff c335 h
          refine g_iconst (v := (0 : Int32)) dL_law_1320 (by decide) ?_
          cases h
          exact g_iret dL_law_1321 rfl rfl hq
      replace h := z_iff s328 h
      by_cases s336 : (xs x3.toNatClampNeg) &&& (63 : Int32) = (33 : Int32)
      · replace h := z_ift s336 h
        refine g_top (v := (33 : Int32)) s336 ?_
        refine g_tsIn (off := 1289) (t := 1322) dL_law_33 (by decide) (by decide) (by decide) ?_
        refine g_aload_n dL_law_1322 rfl rfl ?_
        refine g_aload_n dL_law_1323 rfl rfl ?_
        refine g_iload_n dL_law_1324 rfl rfl ?_
        refine g_iconst (v := (1 : Int32)) dL_law_1325 (by decide) ?_
        refine g_iadd dL_law_1326 ?_
        by_cases g337 : (x3 + (1 : Int32)) < 0 ∨ L ≤ (x3 + (1 : Int32)).toNatClampNeg
        · rw [if_pos g337] at h; cases h
        replace h := z_iff g337 h
        refine g_sld dL_law_1327 g337 ?_
        obtain ⟨q338, e339, h⟩ := z_bd h
        refine g_callV (a := 0) (as := [.int (xs (x3 + (1 : Int32)).toNatClampNeg)]) (rest := []) (c := mX11_net) (k1 := 3) dL_law_1328 rfl rfl rfl sh_0 rfl rfl (Nat.le_of_ble_eq_true rfl) (Nat.le_of_ble_eq_true rfl) (by decide) ?_
        refine A_X11_net e339 ?_
        show z_G (some (L, xs)) 29 mL_law 1331 [some (.ref 0), some (.ref 2), some (.ref 139), some (.int x3)] [.int q338.1] q338.2 Q
        refine g_aload_n dL_law_1331 rfl rfl ?_
        refine g_aload_n dL_law_1332 rfl rfl ?_
        refine g_iload_n dL_law_1333 rfl rfl ?_
        refine g_iconst (v := (1 : Int32)) dL_law_1334 (by decide) ?_
        refine g_iadd dL_law_1335 ?_
        by_cases g340 : (x3 + (1 : Int32)) < 0 ∨ L ≤ (x3 + (1 : Int32)).toNatClampNeg
        · rw [if_pos g340] at h; cases h
        replace h := z_iff g340 h
        refine g_sld dL_law_1336 g340 ?_
        obtain ⟨q341, e342, h⟩ := z_bd h
        refine g_callV (a := 137) (as := [.int (xs (x3 + (1 : Int32)).toNatClampNeg)]) (rest := [.int q338.1]) (c := mX12_net) (k1 := 3) dL_law_1337 rfl rfl rfl sh_137 rfl rfl (Nat.le_of_ble_eq_true rfl) (Nat.le_of_ble_eq_true rfl) (by decide) ?_
        refine A_X12_net e342 ?_
        show z_G (some (L, xs)) 29 mL_law 1340 [some (.ref 0), some (.ref 2), some (.ref 139), some (.int x3)] [.int q341.1, .int q338.1] q341.2 Q
        refine g_ic_eq (t := 1765) dL_law_1340 (by decide) (fun c343 => ?_) (fun c343 => ?_)
        · replace h := z_ift c343 h
          refine g_iinc (v := x3 + (6 : Int32)) (ls' := [some (.ref 0), some (.ref 2), some (.ref 139), some (.int (x3 + (6 : Int32)))]) dL_law_1765 rfl rfl rfl ?_
          refine g_goto (t := 18) dL_law_1768 (by decide) ?_
          exact g_sub (z_sub_s (z_sub_s (z_sub_s (z_sub_s z_sub_nil)))) (ih _ _ _ _ _ h hq)
        · replace h := z_iff c343 h
          refine g_iconst (v := (0 : Int32)) dL_law_1343 (by decide) ?_
          cases h
          exact g_iret dL_law_1344 rfl rfl hq
      replace h := z_iff s336 h
      by_cases s344 : (xs x3.toNatClampNeg) &&& (63 : Int32) = (34 : Int32)
      · replace h := z_ift s344 h
        refine g_top (v := (34 : Int32)) s344 ?_
        refine g_tsIn (off := 1312) (t := 1345) dL_law_33 (by decide) (by decide) (by decide) ?_
        refine g_aload_n dL_law_1345 rfl rfl ?_
        refine g_aload_n dL_law_1346 rfl rfl ?_
        refine g_iload_n dL_law_1347 rfl rfl ?_
        refine g_iconst (v := (1 : Int32)) dL_law_1348 (by decide) ?_
        refine g_iadd dL_law_1349 ?_
        by_cases g345 : (x3 + (1 : Int32)) < 0 ∨ L ≤ (x3 + (1 : Int32)).toNatClampNeg
        · rw [if_pos g345] at h; cases h
        replace h := z_iff g345 h
        refine g_sld dL_law_1350 g345 ?_
        obtain ⟨q346, e347, h⟩ := z_bd h
        refine g_callV (a := 0) (as := [.int (xs (x3 + (1 : Int32)).toNatClampNeg)]) (rest := []) (c := mX11_best) (k1 := 4) dL_law_1351 rfl rfl rfl sh_0 rfl rfl (Nat.le_of_ble_eq_true rfl) (Nat.le_of_ble_eq_true rfl) (by decide) ?_
        refine A_X11_best e347 ?_
        show z_G (some (L, xs)) 29 mL_law 1354 [some (.ref 0), some (.ref 2), some (.ref 139), some (.int x3)] [.int q346.1] q346.2 Q
        refine g_aload_n dL_law_1354 rfl rfl ?_
        refine g_aload_n dL_law_1355 rfl rfl ?_
        refine g_iload_n dL_law_1356 rfl rfl ?_
        refine g_iconst (v := (1 : Int32)) dL_law_1357 (by decide) ?_
        refine g_iadd dL_law_1358 ?_
        by_cases g348 : (x3 + (1 : Int32)) < 0 ∨ L ≤ (x3 + (1 : Int32)).toNatClampNeg
        · rw [if_pos g348] at h; cases h
        replace h := z_iff g348 h
        refine g_sld dL_law_1359 g348 ?_
        obtain ⟨q349, e350, h⟩ := z_bd h
        refine g_callV (a := 137) (as := [.int (xs (x3 + (1 : Int32)).toNatClampNeg)]) (rest := [.int q346.1]) (c := mX12_best) (k1 := 4) dL_law_1360 rfl rfl rfl sh_137 rfl rfl (Nat.le_of_ble_eq_true rfl) (Nat.le_of_ble_eq_true rfl) (by decide) ?_
        refine A_X12_best e350 ?_
        show z_G (some (L, xs)) 29 mL_law 1363 [some (.ref 0), some (.ref 2), some (.ref 139), some (.int x3)] [.int q349.1, .int q346.1] q349.2 Q
        refine g_ic_eq (t := 1765) dL_law_1363 (by decide) (fun c351 => ?_) (fun c351 => ?_)
        · replace h := z_ift c351 h
          refine g_iinc (v := x3 + (6 : Int32)) (ls' := [some (.ref 0), some (.ref 2), some (.ref 139), some (.int (x3 + (6 : Int32)))]) dL_law_1765 rfl rfl rfl ?_
          refine g_goto (t := 18) dL_law_1768 (by decide) ?_
          exact g_sub (z_sub_s (z_sub_s (z_sub_s (z_sub_s z_sub_nil)))) (ih _ _ _ _ _ h hq)
        · replace h := z_iff c351 h
          refine g_iconst (v := (0 : Int32)) dL_law_1366 (by decide) ?_
          cases h
          exact g_iret dL_law_1367 rfl rfl hq
      replace h := z_iff s344 h
      by_cases s352 : (xs x3.toNatClampNeg) &&& (63 : Int32) = (35 : Int32)
      · replace h := z_ift s352 h
        refine g_top (v := (35 : Int32)) s352 ?_
        refine g_tsIn (off := 1335) (t := 1368) dL_law_33 (by decide) (by decide) (by decide) ?_
        refine g_aload_n dL_law_1368 rfl rfl ?_
        refine g_aload_n dL_law_1369 rfl rfl ?_
        refine g_iload_n dL_law_1370 rfl rfl ?_
        refine g_iconst (v := (1 : Int32)) dL_law_1371 (by decide) ?_
        refine g_iadd dL_law_1372 ?_
        by_cases g353 : (x3 + (1 : Int32)) < 0 ∨ L ≤ (x3 + (1 : Int32)).toNatClampNeg
        · rw [if_pos g353] at h; cases h
        replace h := z_iff g353 h
        refine g_sld dL_law_1373 g353 ?_
        refine g_aload_n dL_law_1374 rfl rfl ?_
        refine g_iload_n dL_law_1375 rfl rfl ?_
        refine g_iconst (v := (2 : Int32)) dL_law_1376 (by decide) ?_
        refine g_iadd dL_law_1377 ?_
        by_cases g354 : (x3 + (2 : Int32)) < 0 ∨ L ≤ (x3 + (2 : Int32)).toNatClampNeg
        · rw [if_pos g354] at h; cases h
        replace h := z_iff g354 h
        refine g_sld dL_law_1378 g354 ?_
        obtain ⟨q355, e356, h⟩ := z_bd h
        refine g_callV (a := 0) (as := [.int (xs (x3 + (1 : Int32)).toNatClampNeg), .int (xs (x3 + (2 : Int32)).toNatClampNeg)]) (rest := []) (c := mX11_isSo) (k1 := 3) dL_law_1379 rfl rfl rfl sh_0 rfl rfl (Nat.le_of_ble_eq_true rfl) (Nat.le_of_ble_eq_true rfl) (by decide) ?_
        refine A_X11_isSo e356 ?_
        show z_G (some (L, xs)) 29 mL_law 1382 [some (.ref 0), some (.ref 2), some (.ref 139), some (.int x3)] [.int q355.1] q355.2 Q
        refine g_aload_n dL_law_1382 rfl rfl ?_
        refine g_aload_n dL_law_1383 rfl rfl ?_
        refine g_iload_n dL_law_1384 rfl rfl ?_
        refine g_iconst (v := (1 : Int32)) dL_law_1385 (by decide) ?_
        refine g_iadd dL_law_1386 ?_
        by_cases g357 : (x3 + (1 : Int32)) < 0 ∨ L ≤ (x3 + (1 : Int32)).toNatClampNeg
        · rw [if_pos g357] at h; cases h
        replace h := z_iff g357 h
        refine g_sld dL_law_1387 g357 ?_
        refine g_aload_n dL_law_1388 rfl rfl ?_
        refine g_iload_n dL_law_1389 rfl rfl ?_
        refine g_iconst (v := (2 : Int32)) dL_law_1390 (by decide) ?_
        refine g_iadd dL_law_1391 ?_
        by_cases g358 : (x3 + (2 : Int32)) < 0 ∨ L ≤ (x3 + (2 : Int32)).toNatClampNeg
        · rw [if_pos g358] at h; cases h
        replace h := z_iff g358 h
        refine g_sld dL_law_1392 g358 ?_
        obtain ⟨q359, e360, h⟩ := z_bd h
        refine g_callV (a := 137) (as := [.int (xs (x3 + (1 : Int32)).toNatClampNeg), .int (xs (x3 + (2 : Int32)).toNatClampNeg)]) (rest := [.int q355.1]) (c := mX12_isSo) (k1 := 4) dL_law_1393 rfl rfl rfl sh_137 rfl rfl (Nat.le_of_ble_eq_true rfl) (Nat.le_of_ble_eq_true rfl) (by decide) ?_
        refine A_X12_isSo e360 ?_
        show z_G (some (L, xs)) 29 mL_law 1396 [some (.ref 0), some (.ref 2), some (.ref 139), some (.int x3)] [.int q359.1, .int q355.1] q359.2 Q
        refine g_ic_eq (t := 1765) dL_law_1396 (by decide) (fun c361 => ?_) (fun c361 => ?_)
        · replace h := z_ift c361 h
          refine g_iinc (v := x3 + (6 : Int32)) (ls' := [some (.ref 0), some (.ref 2), some (.ref 139), some (.int (x3 + (6 : Int32)))]) dL_law_1765 rfl rfl rfl ?_
          refine g_goto (t := 18) dL_law_1768 (by decide) ?_
          exact g_sub (z_sub_s (z_sub_s (z_sub_s (z_sub_s z_sub_nil)))) (ih _ _ _ _ _ h hq)
        · replace h := z_iff c361 h
          refine g_iconst (v := (0 : Int32)) dL_law_1399 (by decide) ?_
          cases h
          exact g_iret dL_law_1400 rfl rfl hq
      replace h := z_iff s352 h
      by_cases s362 : (xs x3.toNatClampNeg) &&& (63 : Int32) = (36 : Int32)
      · replace h := z_ift s362 h
        refine g_top (v := (36 : Int32)) s362 ?_
        refine g_tsIn (off := 1368) (t := 1401) dL_law_33 (by decide) (by decide) (by decide) ?_
        refine g_aload_n dL_law_1401 rfl rfl ?_
        refine g_aload_n dL_law_1402 rfl rfl ?_
        refine g_iload_n dL_law_1403 rfl rfl ?_
        refine g_iconst (v := (1 : Int32)) dL_law_1404 (by decide) ?_
        refine g_iadd dL_law_1405 ?_
        by_cases g363 : (x3 + (1 : Int32)) < 0 ∨ L ≤ (x3 + (1 : Int32)).toNatClampNeg
        · rw [if_pos g363] at h; cases h
        replace h := z_iff g363 h
        refine g_sld dL_law_1406 g363 ?_
        obtain ⟨q364, e365, h⟩ := z_bd h
        refine g_callV (a := 0) (as := [.int (xs (x3 + (1 : Int32)).toNatClampNeg)]) (rest := []) (c := mX11_howMany) (k1 := 4) dL_law_1407 rfl rfl rfl sh_0 rfl rfl (Nat.le_of_ble_eq_true rfl) (Nat.le_of_ble_eq_true rfl) (by decide) ?_
        refine A_X11_howMany e365 ?_
        show z_G (some (L, xs)) 29 mL_law 1410 [some (.ref 0), some (.ref 2), some (.ref 139), some (.int x3)] [.int q364.1] q364.2 Q
        refine g_aload_n dL_law_1410 rfl rfl ?_
        refine g_aload_n dL_law_1411 rfl rfl ?_
        refine g_iload_n dL_law_1412 rfl rfl ?_
        refine g_iconst (v := (1 : Int32)) dL_law_1413 (by decide) ?_
        refine g_iadd dL_law_1414 ?_
        by_cases g366 : (x3 + (1 : Int32)) < 0 ∨ L ≤ (x3 + (1 : Int32)).toNatClampNeg
        · rw [if_pos g366] at h; cases h
        replace h := z_iff g366 h
        refine g_sld dL_law_1415 g366 ?_
        obtain ⟨q367, e368, h⟩ := z_bd h
        refine g_callV (a := 137) (as := [.int (xs (x3 + (1 : Int32)).toNatClampNeg)]) (rest := [.int q364.1]) (c := mX12_howMany) (k1 := 4) dL_law_1416 rfl rfl rfl sh_137 rfl rfl (Nat.le_of_ble_eq_true rfl) (Nat.le_of_ble_eq_true rfl) (by decide) ?_
        refine A_X12_howMany e368 ?_
        show z_G (some (L, xs)) 29 mL_law 1419 [some (.ref 0), some (.ref 2), some (.ref 139), some (.int x3)] [.int q367.1, .int q364.1] q367.2 Q
        refine g_ic_eq (t := 1765) dL_law_1419 (by decide) (fun c369 => ?_) (fun c369 => ?_)
        · replace h := z_ift c369 h
          refine g_iinc (v := x3 + (6 : Int32)) (ls' := [some (.ref 0), some (.ref 2), some (.ref 139), some (.int (x3 + (6 : Int32)))]) dL_law_1765 rfl rfl rfl ?_
          refine g_goto (t := 18) dL_law_1768 (by decide) ?_
          exact g_sub (z_sub_s (z_sub_s (z_sub_s (z_sub_s z_sub_nil)))) (ih _ _ _ _ _ h hq)
        · replace h := z_iff c369 h
          refine g_iconst (v := (0 : Int32)) dL_law_1422 (by decide) ?_
          cases h
          exact g_iret dL_law_1423 rfl rfl hq
      replace h := z_iff s362 h
      by_cases s370 : (xs x3.toNatClampNeg) &&& (63 : Int32) = (37 : Int32)
      · replace h := z_ift s370 h
        refine g_top (v := (37 : Int32)) s370 ?_
        refine g_tsIn (off := 1391) (t := 1424) dL_law_33 (by decide) (by decide) (by decide) ?_
        refine g_aload_n dL_law_1424 rfl rfl ?_
        refine g_aload_n dL_law_1425 rfl rfl ?_
        refine g_iload_n dL_law_1426 rfl rfl ?_
        refine g_iconst (v := (1 : Int32)) dL_law_1427 (by decide) ?_
        refine g_iadd dL_law_1428 ?_
        by_cases g371 : (x3 + (1 : Int32)) < 0 ∨ L ≤ (x3 + (1 : Int32)).toNatClampNeg
        · rw [if_pos g371] at h; cases h
        replace h := z_iff g371 h
        refine g_sld dL_law_1429 g371 ?_
        obtain ⟨q372, e373, h⟩ := z_bd h
        refine g_callV (a := 0) (as := [.int (xs (x3 + (1 : Int32)).toNatClampNeg)]) (rest := []) (c := mX11_bestOf) (k1 := 4) dL_law_1430 rfl rfl rfl sh_0 rfl rfl (Nat.le_of_ble_eq_true rfl) (Nat.le_of_ble_eq_true rfl) (by decide) ?_
        refine A_X11_bestOf e373 ?_
        show z_G (some (L, xs)) 29 mL_law 1433 [some (.ref 0), some (.ref 2), some (.ref 139), some (.int x3)] [.int q372.1] q372.2 Q
        refine g_aload_n dL_law_1433 rfl rfl ?_
        refine g_aload_n dL_law_1434 rfl rfl ?_
        refine g_iload_n dL_law_1435 rfl rfl ?_
        refine g_iconst (v := (1 : Int32)) dL_law_1436 (by decide) ?_
        refine g_iadd dL_law_1437 ?_
        by_cases g374 : (x3 + (1 : Int32)) < 0 ∨ L ≤ (x3 + (1 : Int32)).toNatClampNeg
        · rw [if_pos g374] at h; cases h
        replace h := z_iff g374 h
        refine g_sld dL_law_1438 g374 ?_
        obtain ⟨q375, e376, h⟩ := z_bd h
        refine g_callV (a := 137) (as := [.int (xs (x3 + (1 : Int32)).toNatClampNeg)]) (rest := [.int q372.1]) (c := mX12_bestOf) (k1 := 4) dL_law_1439 rfl rfl rfl sh_137 rfl rfl (Nat.le_of_ble_eq_true rfl) (Nat.le_of_ble_eq_true rfl) (by decide) ?_
        refine A_X12_bestOf e376 ?_
        show z_G (some (L, xs)) 29 mL_law 1442 [some (.ref 0), some (.ref 2), some (.ref 139), some (.int x3)] [.int q375.1, .int q372.1] q375.2 Q
        refine g_ic_eq (t := 1765) dL_law_1442 (by decide) (fun c377 => ?_) (fun c377 => ?_)
        · replace h := z_ift c377 h
          refine g_iinc (v := x3 + (6 : Int32)) (ls' := [some (.ref 0), some (.ref 2), some (.ref 139), some (.int (x3 + (6 : Int32)))]) dL_law_1765 rfl rfl rfl ?_
          refine g_goto (t := 18) dL_law_1768 (by decide) ?_
          exact g_sub (z_sub_s (z_sub_s (z_sub_s (z_sub_s z_sub_nil)))) (ih _ _ _ _ _ h hq)
        · replace h := z_iff c377 h
          refine g_iconst (v := (0 : Int32)) dL_law_1445 (by decide) ?_
          cases h
          exact g_iret dL_law_1446 rfl rfl hq
      replace h := z_iff s370 h
      by_cases s378 : (xs x3.toNatClampNeg) &&& (63 : Int32) = (38 : Int32)
      · replace h := z_ift s378 h
        refine g_top (v := (38 : Int32)) s378 ?_
        refine g_tsIn (off := 1414) (t := 1447) dL_law_33 (by decide) (by decide) (by decide) ?_
        refine g_aload_n dL_law_1447 rfl rfl ?_
        obtain ⟨q379, e380, h⟩ := z_bd h
        refine g_callV (a := 0) (as := []) (rest := []) (c := mX11_even) (k1 := 3) dL_law_1448 rfl rfl rfl sh_0 rfl rfl (Nat.le_of_ble_eq_true rfl) (Nat.le_of_ble_eq_true rfl) (by decide) ?_
        refine A_X11_even e380 ?_
        show z_G (some (L, xs)) 29 mL_law 1451 [some (.ref 0), some (.ref 2), some (.ref 139), some (.int x3)] [.int q379.1] q379.2 Q
        refine g_aload_n dL_law_1451 rfl rfl ?_
        obtain ⟨q381, e382, h⟩ := z_bd h
        refine g_callV (a := 137) (as := []) (rest := [.int q379.1]) (c := mX12_even) (k1 := 4) dL_law_1452 rfl rfl rfl sh_137 rfl rfl (Nat.le_of_ble_eq_true rfl) (Nat.le_of_ble_eq_true rfl) (by decide) ?_
        refine A_X12_even e382 ?_
        show z_G (some (L, xs)) 29 mL_law 1455 [some (.ref 0), some (.ref 2), some (.ref 139), some (.int x3)] [.int q381.1, .int q379.1] q381.2 Q
        refine g_ic_eq (t := 1765) dL_law_1455 (by decide) (fun c383 => ?_) (fun c383 => ?_)
        · replace h := z_ift c383 h
          refine g_iinc (v := x3 + (6 : Int32)) (ls' := [some (.ref 0), some (.ref 2), some (.ref 139), some (.int (x3 + (6 : Int32)))]) dL_law_1765 rfl rfl rfl ?_
          refine g_goto (t := 18) dL_law_1768 (by decide) ?_
          exact g_sub (z_sub_s (z_sub_s (z_sub_s (z_sub_s z_sub_nil)))) (ih _ _ _ _ _ h hq)
        · replace h := z_iff c383 h
          refine g_iconst (v := (0 : Int32)) dL_law_1458 (by decide) ?_
          cases h
          exact g_iret dL_law_1459 rfl rfl hq
      replace h := z_iff s378 h
      by_cases s384 : (xs x3.toNatClampNeg) &&& (63 : Int32) = (39 : Int32)
      · replace h := z_ift s384 h
        refine g_top (v := (39 : Int32)) s384 ?_
        refine g_tsIn (off := 1427) (t := 1460) dL_law_33 (by decide) (by decide) (by decide) ?_
        refine g_aload_n dL_law_1460 rfl rfl ?_
        refine g_aload_n dL_law_1461 rfl rfl ?_
        refine g_iload_n dL_law_1462 rfl rfl ?_
        refine g_iconst (v := (1 : Int32)) dL_law_1463 (by decide) ?_
        refine g_iadd dL_law_1464 ?_
        by_cases g385 : (x3 + (1 : Int32)) < 0 ∨ L ≤ (x3 + (1 : Int32)).toNatClampNeg
        · rw [if_pos g385] at h; cases h
        replace h := z_iff g385 h
        refine g_sld dL_law_1465 g385 ?_
        obtain ⟨q386, e387, h⟩ := z_bd h
        refine g_callV (a := 0) (as := [.int (xs (x3 + (1 : Int32)).toNatClampNeg)]) (rest := []) (c := mX11_rent) (k1 := 4) dL_law_1466 rfl rfl rfl sh_0 rfl rfl (Nat.le_of_ble_eq_true rfl) (Nat.le_of_ble_eq_true rfl) (by decide) ?_
        refine A_X11_rent e387 ?_
        show z_G (some (L, xs)) 29 mL_law 1469 [some (.ref 0), some (.ref 2), some (.ref 139), some (.int x3)] [.int q386.1] q386.2 Q
        refine g_aload_n dL_law_1469 rfl rfl ?_
        refine g_aload_n dL_law_1470 rfl rfl ?_
        refine g_iload_n dL_law_1471 rfl rfl ?_
        refine g_iconst (v := (1 : Int32)) dL_law_1472 (by decide) ?_
        refine g_iadd dL_law_1473 ?_
        by_cases g388 : (x3 + (1 : Int32)) < 0 ∨ L ≤ (x3 + (1 : Int32)).toNatClampNeg
        · rw [if_pos g388] at h; cases h
        replace h := z_iff g388 h
        refine g_sld dL_law_1474 g388 ?_
        obtain ⟨q389, e390, h⟩ := z_bd h
        refine g_callV (a := 137) (as := [.int (xs (x3 + (1 : Int32)).toNatClampNeg)]) (rest := [.int q386.1]) (c := mX12_rent) (k1 := 5) dL_law_1475 rfl rfl rfl sh_137 rfl rfl (Nat.le_of_ble_eq_true rfl) (Nat.le_of_ble_eq_true rfl) (by decide) ?_
        refine A_X12_rent e390 ?_
        show z_G (some (L, xs)) 29 mL_law 1478 [some (.ref 0), some (.ref 2), some (.ref 139), some (.int x3)] [.int q389.1, .int q386.1] q389.2 Q
        refine g_ic_eq (t := 1765) dL_law_1478 (by decide) (fun c391 => ?_) (fun c391 => ?_)
        · replace h := z_ift c391 h
          refine g_iinc (v := x3 + (6 : Int32)) (ls' := [some (.ref 0), some (.ref 2), some (.ref 139), some (.int (x3 + (6 : Int32)))]) dL_law_1765 rfl rfl rfl ?_
          refine g_goto (t := 18) dL_law_1768 (by decide) ?_
          exact g_sub (z_sub_s (z_sub_s (z_sub_s (z_sub_s z_sub_nil)))) (ih _ _ _ _ _ h hq)
        · replace h := z_iff c391 h
          refine g_iconst (v := (0 : Int32)) dL_law_1481 (by decide) ?_
          cases h
          exact g_iret dL_law_1482 rfl rfl hq
      replace h := z_iff s384 h
      by_cases s392 : (xs x3.toNatClampNeg) &&& (63 : Int32) = (40 : Int32)
      · replace h := z_ift s392 h
        refine g_top (v := (40 : Int32)) s392 ?_
        refine g_tsIn (off := 1450) (t := 1483) dL_law_33 (by decide) (by decide) (by decide) ?_
        refine g_aload_n dL_law_1483 rfl rfl ?_
        obtain ⟨q393, e394, h⟩ := z_bd h
        refine g_callV (a := 0) (as := []) (rest := []) (c := mX11_rulings) (k1 := 2) dL_law_1484 rfl rfl rfl sh_0 rfl rfl (Nat.le_of_ble_eq_true rfl) (Nat.le_of_ble_eq_true rfl) (by decide) ?_
        refine A_X11_rulings e394 ?_
        show z_G (some (L, xs)) 29 mL_law 1487 [some (.ref 0), some (.ref 2), some (.ref 139), some (.int x3)] [.int q393.1] q393.2 Q
        refine g_aload_n dL_law_1487 rfl rfl ?_
        obtain ⟨q395, e396, h⟩ := z_bd h
        refine g_callV (a := 137) (as := []) (rest := [.int q393.1]) (c := mX12_rulings) (k1 := 1) dL_law_1488 rfl rfl rfl sh_137 rfl rfl (Nat.le_of_ble_eq_true rfl) (Nat.le_of_ble_eq_true rfl) (by decide) ?_
        refine A_X12_rulings e396 ?_
        show z_G (some (L, xs)) 29 mL_law 1491 [some (.ref 0), some (.ref 2), some (.ref 139), some (.int x3)] [.int q395.1, .int q393.1] q395.2 Q
        refine g_ic_eq (t := 1765) dL_law_1491 (by decide) (fun c397 => ?_) (fun c397 => ?_)
        · replace h := z_ift c397 h
          refine g_iinc (v := x3 + (6 : Int32)) (ls' := [some (.ref 0), some (.ref 2), some (.ref 139), some (.int (x3 + (6 : Int32)))]) dL_law_1765 rfl rfl rfl ?_
          refine g_goto (t := 18) dL_law_1768 (by decide) ?_
          exact g_sub (z_sub_s (z_sub_s (z_sub_s (z_sub_s z_sub_nil)))) (ih _ _ _ _ _ h hq)
        · replace h := z_iff c397 h
          refine g_iconst (v := (0 : Int32)) dL_law_1494 (by decide) ?_
          cases h
          exact g_iret dL_law_1495 rfl rfl hq
      replace h := z_iff s392 h
      by_cases s398 : (xs x3.toNatClampNeg) &&& (63 : Int32) = (41 : Int32)
      · replace h := z_ift s398 h
        refine g_top (v := (41 : Int32)) s398 ?_
        refine g_tsIn (off := 1463) (t := 1496) dL_law_33 (by decide) (by decide) (by decide) ?_
        refine g_aload_n dL_law_1496 rfl rfl ?_
        refine g_aload_n dL_law_1497 rfl rfl ?_
        refine g_iload_n dL_law_1498 rfl rfl ?_
        refine g_iconst (v := (1 : Int32)) dL_law_1499 (by decide) ?_
        refine g_iadd dL_law_1500 ?_
        by_cases g399 : (x3 + (1 : Int32)) < 0 ∨ L ≤ (x3 + (1 : Int32)).toNatClampNeg
        · rw [if_pos g399] at h; cases h
        replace h := z_iff g399 h
        refine g_sld dL_law_1501 g399 ?_
        obtain ⟨q400, e401, h⟩ := z_bd h
        refine g_callV (a := 0) (as := [.int (xs (x3 + (1 : Int32)).toNatClampNeg)]) (rest := []) (c := mX11_rulingAt) (k1 := 2) dL_law_1502 rfl rfl rfl sh_0 rfl rfl (Nat.le_of_ble_eq_true rfl) (Nat.le_of_ble_eq_true rfl) (by decide) ?_
        refine A_X11_rulingAt e401 ?_
        show z_G (some (L, xs)) 29 mL_law 1505 [some (.ref 0), some (.ref 2), some (.ref 139), some (.int x3)] [.int q400.1] q400.2 Q
        refine g_aload_n dL_law_1505 rfl rfl ?_
        refine g_aload_n dL_law_1506 rfl rfl ?_
        refine g_iload_n dL_law_1507 rfl rfl ?_
        refine g_iconst (v := (1 : Int32)) dL_law_1508 (by decide) ?_
        refine g_iadd dL_law_1509 ?_
        by_cases g402 : (x3 + (1 : Int32)) < 0 ∨ L ≤ (x3 + (1 : Int32)).toNatClampNeg
        · rw [if_pos g402] at h; cases h
        replace h := z_iff g402 h
        refine g_sld dL_law_1510 g402 ?_
        obtain ⟨q403, e404, h⟩ := z_bd h
        refine g_callV (a := 137) (as := [.int (xs (x3 + (1 : Int32)).toNatClampNeg)]) (rest := [.int q400.1]) (c := mX12_rulingAt) (k1 := 1) dL_law_1511 rfl rfl rfl sh_137 rfl rfl (Nat.le_of_ble_eq_true rfl) (Nat.le_of_ble_eq_true rfl) (by decide) ?_
        refine A_X12_rulingAt e404 ?_
        show z_G (some (L, xs)) 29 mL_law 1514 [some (.ref 0), some (.ref 2), some (.ref 139), some (.int x3)] [.int q403.1, .int q400.1] q403.2 Q
        refine g_ic_eq (t := 1765) dL_law_1514 (by decide) (fun c405 => ?_) (fun c405 => ?_)
        · replace h := z_ift c405 h
          refine g_iinc (v := x3 + (6 : Int32)) (ls' := [some (.ref 0), some (.ref 2), some (.ref 139), some (.int (x3 + (6 : Int32)))]) dL_law_1765 rfl rfl rfl ?_
          refine g_goto (t := 18) dL_law_1768 (by decide) ?_
          exact g_sub (z_sub_s (z_sub_s (z_sub_s (z_sub_s z_sub_nil)))) (ih _ _ _ _ _ h hq)
        · replace h := z_iff c405 h
          refine g_iconst (v := (0 : Int32)) dL_law_1517 (by decide) ?_
          cases h
          exact g_iret dL_law_1518 rfl rfl hq
      replace h := z_iff s398 h
      by_cases s406 : (xs x3.toNatClampNeg) &&& (63 : Int32) = (42 : Int32)
      · replace h := z_ift s406 h
        refine g_top (v := (42 : Int32)) s406 ?_
        refine g_tsIn (off := 1486) (t := 1519) dL_law_33 (by decide) (by decide) (by decide) ?_
        refine g_aload_n dL_law_1519 rfl rfl ?_
        obtain ⟨q407, e408, h⟩ := z_bd h
        refine g_callV (a := 0) (as := []) (rest := []) (c := mX11_strike) (k1 := 2) dL_law_1520 rfl rfl rfl sh_0 rfl rfl (Nat.le_of_ble_eq_true rfl) (Nat.le_of_ble_eq_true rfl) (by decide) ?_
        refine A_X11_strike e408 ?_
        show z_G (some (L, xs)) 29 mL_law 1523 [some (.ref 0), some (.ref 2), some (.ref 139), some (.int x3)] [.int q407.1] q407.2 Q
        refine g_aload_n dL_law_1523 rfl rfl ?_
        obtain ⟨q409, e410, h⟩ := z_bd h
        refine g_callV (a := 137) (as := []) (rest := [.int q407.1]) (c := mX12_strike) (k1 := 3) dL_law_1524 rfl rfl rfl sh_137 rfl rfl (Nat.le_of_ble_eq_true rfl) (Nat.le_of_ble_eq_true rfl) (by decide) ?_
        refine A_X12_strike e410 ?_
        show z_G (some (L, xs)) 29 mL_law 1527 [some (.ref 0), some (.ref 2), some (.ref 139), some (.int x3)] [.int q409.1, .int q407.1] q409.2 Q
        refine g_ic_eq (t := 1765) dL_law_1527 (by decide) (fun c411 => ?_) (fun c411 => ?_)
        · replace h := z_ift c411 h
          refine g_iinc (v := x3 + (6 : Int32)) (ls' := [some (.ref 0), some (.ref 2), some (.ref 139), some (.int (x3 + (6 : Int32)))]) dL_law_1765 rfl rfl rfl ?_
          refine g_goto (t := 18) dL_law_1768 (by decide) ?_
          exact g_sub (z_sub_s (z_sub_s (z_sub_s (z_sub_s z_sub_nil)))) (ih _ _ _ _ _ h hq)
        · replace h := z_iff c411 h
          refine g_iconst (v := (0 : Int32)) dL_law_1530 (by decide) ?_
          cases h
          exact g_iret dL_law_1531 rfl rfl hq
      replace h := z_iff s406 h
      by_cases s412 : (xs x3.toNatClampNeg) &&& (63 : Int32) = (43 : Int32)
      · replace h := z_ift s412 h
        refine g_top (v := (43 : Int32)) s412 ?_
        refine g_tsIn (off := 1499) (t := 1532) dL_law_33 (by decide) (by decide) (by decide) ?_
        refine g_aload_n dL_law_1532 rfl rfl ?_
        obtain ⟨q413, e414, h⟩ := z_bd h
        refine g_callV (a := 0) (as := []) (rest := []) (c := mX11_strikeSet) (k1 := 2) dL_law_1533 rfl rfl rfl sh_0 rfl rfl (Nat.le_of_ble_eq_true rfl) (Nat.le_of_ble_eq_true rfl) (by decide) ?_
        refine A_X11_strikeSet e414 ?_
        show z_G (some (L, xs)) 29 mL_law 1536 [some (.ref 0), some (.ref 2), some (.ref 139), some (.int x3)] [.int q413.1] q413.2 Q
        refine g_aload_n dL_law_1536 rfl rfl ?_
        obtain ⟨q415, e416, h⟩ := z_bd h
        refine g_callV (a := 137) (as := []) (rest := [.int q413.1]) (c := mX12_strikeSet) (k1 := 3) dL_law_1537 rfl rfl rfl sh_137 rfl rfl (Nat.le_of_ble_eq_true rfl) (Nat.le_of_ble_eq_true rfl) (by decide) ?_
        refine A_X12_strikeSet e416 ?_
        show z_G (some (L, xs)) 29 mL_law 1540 [some (.ref 0), some (.ref 2), some (.ref 139), some (.int x3)] [.int q415.1, .int q413.1] q415.2 Q
        refine g_ic_eq (t := 1765) dL_law_1540 (by decide) (fun c417 => ?_) (fun c417 => ?_)
        · replace h := z_ift c417 h
          refine g_iinc (v := x3 + (6 : Int32)) (ls' := [some (.ref 0), some (.ref 2), some (.ref 139), some (.int (x3 + (6 : Int32)))]) dL_law_1765 rfl rfl rfl ?_
          refine g_goto (t := 18) dL_law_1768 (by decide) ?_
          exact g_sub (z_sub_s (z_sub_s (z_sub_s (z_sub_s z_sub_nil)))) (ih _ _ _ _ _ h hq)
        · replace h := z_iff c417 h
          refine g_iconst (v := (0 : Int32)) dL_law_1543 (by decide) ?_
          cases h
          exact g_iret dL_law_1544 rfl rfl hq
      replace h := z_iff s412 h
      by_cases s418 : (xs x3.toNatClampNeg) &&& (63 : Int32) = (44 : Int32)
      · replace h := z_ift s418 h
        refine g_top (v := (44 : Int32)) s418 ?_
        refine g_tsIn (off := 1512) (t := 1545) dL_law_33 (by decide) (by decide) (by decide) ?_
        refine g_aload_n dL_law_1545 rfl rfl ?_
        refine g_aload_n dL_law_1546 rfl rfl ?_
        refine g_iload_n dL_law_1547 rfl rfl ?_
        refine g_iconst (v := (1 : Int32)) dL_law_1548 (by decide) ?_
        refine g_iadd dL_law_1549 ?_
        by_cases g419 : (x3 + (1 : Int32)) < 0 ∨ L ≤ (x3 + (1 : Int32)).toNatClampNeg
        · rw [if_pos g419] at h; cases h
        replace h := z_iff g419 h
        refine g_sld dL_law_1550 g419 ?_
        obtain ⟨q420, e421, h⟩ := z_bd h
        refine g_callV (a := 0) (as := [.int (xs (x3 + (1 : Int32)).toNatClampNeg)]) (rest := []) (c := mX11_sure) (k1 := 2) dL_law_1551 rfl rfl rfl sh_0 rfl rfl (Nat.le_of_ble_eq_true rfl) (Nat.le_of_ble_eq_true rfl) (by decide) ?_
        refine A_X11_sure e421 ?_
        show z_G (some (L, xs)) 29 mL_law 1554 [some (.ref 0), some (.ref 2), some (.ref 139), some (.int x3)] [.int q420.1] q420.2 Q
        refine g_aload_n dL_law_1554 rfl rfl ?_
        refine g_aload_n dL_law_1555 rfl rfl ?_
        refine g_iload_n dL_law_1556 rfl rfl ?_
        refine g_iconst (v := (1 : Int32)) dL_law_1557 (by decide) ?_
        refine g_iadd dL_law_1558 ?_
        by_cases g422 : (x3 + (1 : Int32)) < 0 ∨ L ≤ (x3 + (1 : Int32)).toNatClampNeg
        · rw [if_pos g422] at h; cases h
        replace h := z_iff g422 h
        refine g_sld dL_law_1559 g422 ?_
        obtain ⟨q423, e424, h⟩ := z_bd h
        refine g_callV (a := 137) (as := [.int (xs (x3 + (1 : Int32)).toNatClampNeg)]) (rest := [.int q420.1]) (c := mX12_sure) (k1 := 1) dL_law_1560 rfl rfl rfl sh_137 rfl rfl (Nat.le_of_ble_eq_true rfl) (Nat.le_of_ble_eq_true rfl) (by decide) ?_
        refine A_X12_sure e424 ?_
        show z_G (some (L, xs)) 29 mL_law 1563 [some (.ref 0), some (.ref 2), some (.ref 139), some (.int x3)] [.int q423.1, .int q420.1] q423.2 Q
        refine g_ic_eq (t := 1765) dL_law_1563 (by decide) (fun c425 => ?_) (fun c425 => ?_)
        · replace h := z_ift c425 h
          refine g_iinc (v := x3 + (6 : Int32)) (ls' := [some (.ref 0), some (.ref 2), some (.ref 139), some (.int (x3 + (6 : Int32)))]) dL_law_1765 rfl rfl rfl ?_
          refine g_goto (t := 18) dL_law_1768 (by decide) ?_
          exact g_sub (z_sub_s (z_sub_s (z_sub_s (z_sub_s z_sub_nil)))) (ih _ _ _ _ _ h hq)
        · replace h := z_iff c425 h
          refine g_iconst (v := (0 : Int32)) dL_law_1566 (by decide) ?_
          cases h
          exact g_iret dL_law_1567 rfl rfl hq
      replace h := z_iff s418 h
      by_cases s426 : (xs x3.toNatClampNeg) &&& (63 : Int32) = (45 : Int32)
      · replace h := z_ift s426 h
        refine g_top (v := (45 : Int32)) s426 ?_
        refine g_tsIn (off := 1535) (t := 1568) dL_law_33 (by decide) (by decide) (by decide) ?_
        refine g_aload_n dL_law_1568 rfl rfl ?_
        refine g_aload_n dL_law_1569 rfl rfl ?_
        refine g_iload_n dL_law_1570 rfl rfl ?_
        refine g_iconst (v := (1 : Int32)) dL_law_1571 (by decide) ?_
        refine g_iadd dL_law_1572 ?_
        by_cases g427 : (x3 + (1 : Int32)) < 0 ∨ L ≤ (x3 + (1 : Int32)).toNatClampNeg
        · rw [if_pos g427] at h; cases h
        replace h := z_iff g427 h
        refine g_sld dL_law_1573 g427 ?_
        obtain ⟨q428, e429, h⟩ := z_bd h
        refine g_callV (a := 0) (as := [.int (xs (x3 + (1 : Int32)).toNatClampNeg)]) (rest := []) (c := mX11_game) (k1 := 13) dL_law_1574 rfl rfl rfl sh_0 rfl rfl (Nat.le_of_ble_eq_true rfl) (Nat.le_of_ble_eq_true rfl) (by decide) ?_
        refine A_X11_game e429 ?_
        show z_G (some (L, xs)) 29 mL_law 1577 [some (.ref 0), some (.ref 2), some (.ref 139), some (.int x3)] [.int q428.1] q428.2 Q
        refine g_aload_n dL_law_1577 rfl rfl ?_
        refine g_aload_n dL_law_1578 rfl rfl ?_
        refine g_iload_n dL_law_1579 rfl rfl ?_
        refine g_iconst (v := (1 : Int32)) dL_law_1580 (by decide) ?_
        refine g_iadd dL_law_1581 ?_
        by_cases g430 : (x3 + (1 : Int32)) < 0 ∨ L ≤ (x3 + (1 : Int32)).toNatClampNeg
        · rw [if_pos g430] at h; cases h
        replace h := z_iff g430 h
        refine g_sld dL_law_1582 g430 ?_
        obtain ⟨q431, e432, h⟩ := z_bd h
        refine g_callV (a := 137) (as := [.int (xs (x3 + (1 : Int32)).toNatClampNeg)]) (rest := [.int q428.1]) (c := mX12_game) (k1 := 11) dL_law_1583 rfl rfl rfl sh_137 rfl rfl (Nat.le_of_ble_eq_true rfl) (Nat.le_of_ble_eq_true rfl) (by decide) ?_
        refine A_X12_game e432 ?_
        show z_G (some (L, xs)) 29 mL_law 1586 [some (.ref 0), some (.ref 2), some (.ref 139), some (.int x3)] [.int q431.1, .int q428.1] q431.2 Q
        refine g_ic_eq (t := 1765) dL_law_1586 (by decide) (fun c433 => ?_) (fun c433 => ?_)
        · replace h := z_ift c433 h
          refine g_iinc (v := x3 + (6 : Int32)) (ls' := [some (.ref 0), some (.ref 2), some (.ref 139), some (.int (x3 + (6 : Int32)))]) dL_law_1765 rfl rfl rfl ?_
          refine g_goto (t := 18) dL_law_1768 (by decide) ?_
          exact g_sub (z_sub_s (z_sub_s (z_sub_s (z_sub_s z_sub_nil)))) (ih _ _ _ _ _ h hq)
        · replace h := z_iff c433 h
          refine g_iconst (v := (0 : Int32)) dL_law_1589 (by decide) ?_
          cases h
          exact g_iret dL_law_1590 rfl rfl hq
      replace h := z_iff s426 h
      by_cases s434 : (xs x3.toNatClampNeg) &&& (63 : Int32) = (46 : Int32)
      · replace h := z_ift s434 h
        refine g_top (v := (46 : Int32)) s434 ?_
        refine g_tsIn (off := 1558) (t := 1591) dL_law_33 (by decide) (by decide) (by decide) ?_
        refine g_aload_n dL_law_1591 rfl rfl ?_
        refine g_aload_n dL_law_1592 rfl rfl ?_
        refine g_iload_n dL_law_1593 rfl rfl ?_
        refine g_iconst (v := (1 : Int32)) dL_law_1594 (by decide) ?_
        refine g_iadd dL_law_1595 ?_
        by_cases g435 : (x3 + (1 : Int32)) < 0 ∨ L ≤ (x3 + (1 : Int32)).toNatClampNeg
        · rw [if_pos g435] at h; cases h
        replace h := z_iff g435 h
        refine g_sld dL_law_1596 g435 ?_
        obtain ⟨q436, e437, h⟩ := z_bd h
        refine g_callV (a := 0) (as := [.int (xs (x3 + (1 : Int32)).toNatClampNeg)]) (rest := []) (c := mX11_moveOf) (k1 := 13) dL_law_1597 rfl rfl rfl sh_0 rfl rfl (Nat.le_of_ble_eq_true rfl) (Nat.le_of_ble_eq_true rfl) (by decide) ?_
        refine A_X11_moveOf e437 ?_
        show z_G (some (L, xs)) 29 mL_law 1600 [some (.ref 0), some (.ref 2), some (.ref 139), some (.int x3)] [.int q436.1] q436.2 Q
        refine g_aload_n dL_law_1600 rfl rfl ?_
        refine g_aload_n dL_law_1601 rfl rfl ?_
        refine g_iload_n dL_law_1602 rfl rfl ?_
        refine g_iconst (v := (1 : Int32)) dL_law_1603 (by decide) ?_
        refine g_iadd dL_law_1604 ?_
        by_cases g438 : (x3 + (1 : Int32)) < 0 ∨ L ≤ (x3 + (1 : Int32)).toNatClampNeg
        · rw [if_pos g438] at h; cases h
        replace h := z_iff g438 h
        refine g_sld dL_law_1605 g438 ?_
        obtain ⟨q439, e440, h⟩ := z_bd h
        refine g_callV (a := 137) (as := [.int (xs (x3 + (1 : Int32)).toNatClampNeg)]) (rest := [.int q436.1]) (c := mX12_moveOf) (k1 := 11) dL_law_1606 rfl rfl rfl sh_137 rfl rfl (Nat.le_of_ble_eq_true rfl) (Nat.le_of_ble_eq_true rfl) (by decide) ?_
        refine A_X12_moveOf e440 ?_
        show z_G (some (L, xs)) 29 mL_law 1609 [some (.ref 0), some (.ref 2), some (.ref 139), some (.int x3)] [.int q439.1, .int q436.1] q439.2 Q
        refine g_ic_eq (t := 1765) dL_law_1609 (by decide) (fun c441 => ?_) (fun c441 => ?_)
        · replace h := z_ift c441 h
          refine g_iinc (v := x3 + (6 : Int32)) (ls' := [some (.ref 0), some (.ref 2), some (.ref 139), some (.int (x3 + (6 : Int32)))]) dL_law_1765 rfl rfl rfl ?_
          refine g_goto (t := 18) dL_law_1768 (by decide) ?_
          exact g_sub (z_sub_s (z_sub_s (z_sub_s (z_sub_s z_sub_nil)))) (ih _ _ _ _ _ h hq)
        · replace h := z_iff c441 h
          refine g_iconst (v := (0 : Int32)) dL_law_1612 (by decide) ?_
          cases h
          exact g_iret dL_law_1613 rfl rfl hq
      replace h := z_iff s434 h
      by_cases s442 : (xs x3.toNatClampNeg) &&& (63 : Int32) = (47 : Int32)
      · replace h := z_ift s442 h
        refine g_top (v := (47 : Int32)) s442 ?_
        refine g_tsIn (off := 1581) (t := 1614) dL_law_33 (by decide) (by decide) (by decide) ?_
        refine g_aload_n dL_law_1614 rfl rfl ?_
        refine g_aload_n dL_law_1615 rfl rfl ?_
        refine g_iload_n dL_law_1616 rfl rfl ?_
        refine g_iconst (v := (1 : Int32)) dL_law_1617 (by decide) ?_
        refine g_iadd dL_law_1618 ?_
        by_cases g443 : (x3 + (1 : Int32)) < 0 ∨ L ≤ (x3 + (1 : Int32)).toNatClampNeg
        · rw [if_pos g443] at h; cases h
        replace h := z_iff g443 h
        refine g_sld dL_law_1619 g443 ?_
        obtain ⟨q444, e445, h⟩ := z_bd h
        refine g_callV (a := 0) (as := [.int (xs (x3 + (1 : Int32)).toNatClampNeg)]) (rest := []) (c := mX11_whose) (k1 := 2) dL_law_1620 rfl rfl rfl sh_0 rfl rfl (Nat.le_of_ble_eq_true rfl) (Nat.le_of_ble_eq_true rfl) (by decide) ?_
        refine A_X11_whose e445 ?_
        show z_G (some (L, xs)) 29 mL_law 1623 [some (.ref 0), some (.ref 2), some (.ref 139), some (.int x3)] [.int (z_tb q444.1)] q444.2 Q
        refine g_aload_n dL_law_1623 rfl rfl ?_
        refine g_aload_n dL_law_1624 rfl rfl ?_
        refine g_iload_n dL_law_1625 rfl rfl ?_
        refine g_iconst (v := (1 : Int32)) dL_law_1626 (by decide) ?_
        refine g_iadd dL_law_1627 ?_
        by_cases g446 : (x3 + (1 : Int32)) < 0 ∨ L ≤ (x3 + (1 : Int32)).toNatClampNeg
        · rw [if_pos g446] at h; cases h
        replace h := z_iff g446 h
        refine g_sld dL_law_1628 g446 ?_
        obtain ⟨q447, e448, h⟩ := z_bd h
        refine g_callV (a := 137) (as := [.int (xs (x3 + (1 : Int32)).toNatClampNeg)]) (rest := [.int (z_tb q444.1)]) (c := mX12_whose) (k1 := 1) dL_law_1629 rfl rfl rfl sh_137 rfl rfl (Nat.le_of_ble_eq_true rfl) (Nat.le_of_ble_eq_true rfl) (by decide) ?_
        refine A_X12_whose e448 ?_
        show z_G (some (L, xs)) 29 mL_law 1632 [some (.ref 0), some (.ref 2), some (.ref 139), some (.int x3)] [.int (z_tb q447.1), .int (z_tb q444.1)] q447.2 Q
        refine g_ic_eq (t := 1765) dL_law_1632 (by decide) (fun c449 => ?_) (fun c449 => ?_)
        · replace h := z_ift c449 h
          refine g_iinc (v := x3 + (6 : Int32)) (ls' := [some (.ref 0), some (.ref 2), some (.ref 139), some (.int (x3 + (6 : Int32)))]) dL_law_1765 rfl rfl rfl ?_
          refine g_goto (t := 18) dL_law_1768 (by decide) ?_
          exact g_sub (z_sub_s (z_sub_s (z_sub_s (z_sub_s z_sub_nil)))) (ih _ _ _ _ _ h hq)
        · replace h := z_iff c449 h
          refine g_iconst (v := (0 : Int32)) dL_law_1635 (by decide) ?_
          cases h
          exact g_iret dL_law_1636 rfl rfl hq
      replace h := z_iff s442 h
      by_cases s450 : (xs x3.toNatClampNeg) &&& (63 : Int32) = (48 : Int32)
      · replace h := z_ift s450 h
        refine g_top (v := (48 : Int32)) s450 ?_
        refine g_tsIn (off := 1604) (t := 1637) dL_law_33 (by decide) (by decide) (by decide) ?_
        refine g_aload_n dL_law_1637 rfl rfl ?_
        refine g_aload_n dL_law_1638 rfl rfl ?_
        refine g_iload_n dL_law_1639 rfl rfl ?_
        refine g_iconst (v := (1 : Int32)) dL_law_1640 (by decide) ?_
        refine g_iadd dL_law_1641 ?_
        by_cases g451 : (x3 + (1 : Int32)) < 0 ∨ L ≤ (x3 + (1 : Int32)).toNatClampNeg
        · rw [if_pos g451] at h; cases h
        replace h := z_iff g451 h
        refine g_sld dL_law_1642 g451 ?_
        obtain ⟨q452, e453, h⟩ := z_bd h
        refine g_callV (a := 0) (as := [.int (xs (x3 + (1 : Int32)).toNatClampNeg)]) (rest := []) (c := mX11_share) (k1 := 2) dL_law_1643 rfl rfl rfl sh_0 rfl rfl (Nat.le_of_ble_eq_true rfl) (Nat.le_of_ble_eq_true rfl) (by decide) ?_
        refine A_X11_share e453 ?_
        show z_G (some (L, xs)) 29 mL_law 1646 [some (.ref 0), some (.ref 2), some (.ref 139), some (.int x3)] [.int (z_tb q452.1)] q452.2 Q
        refine g_aload_n dL_law_1646 rfl rfl ?_
        refine g_aload_n dL_law_1647 rfl rfl ?_
        refine g_iload_n dL_law_1648 rfl rfl ?_
        refine g_iconst (v := (1 : Int32)) dL_law_1649 (by decide) ?_
        refine g_iadd dL_law_1650 ?_
        by_cases g454 : (x3 + (1 : Int32)) < 0 ∨ L ≤ (x3 + (1 : Int32)).toNatClampNeg
        · rw [if_pos g454] at h; cases h
        replace h := z_iff g454 h
        refine g_sld dL_law_1651 g454 ?_
        obtain ⟨q455, e456, h⟩ := z_bd h
        refine g_callV (a := 137) (as := [.int (xs (x3 + (1 : Int32)).toNatClampNeg)]) (rest := [.int (z_tb q452.1)]) (c := mX12_share) (k1 := 1) dL_law_1652 rfl rfl rfl sh_137 rfl rfl (Nat.le_of_ble_eq_true rfl) (Nat.le_of_ble_eq_true rfl) (by decide) ?_
        refine A_X12_share e456 ?_
        show z_G (some (L, xs)) 29 mL_law 1655 [some (.ref 0), some (.ref 2), some (.ref 139), some (.int x3)] [.int (z_tb q455.1), .int (z_tb q452.1)] q455.2 Q
        refine g_ic_eq (t := 1765) dL_law_1655 (by decide) (fun c457 => ?_) (fun c457 => ?_)
        · replace h := z_ift c457 h
          refine g_iinc (v := x3 + (6 : Int32)) (ls' := [some (.ref 0), some (.ref 2), some (.ref 139), some (.int (x3 + (6 : Int32)))]) dL_law_1765 rfl rfl rfl ?_
          refine g_goto (t := 18) dL_law_1768 (by decide) ?_
          exact g_sub (z_sub_s (z_sub_s (z_sub_s (z_sub_s z_sub_nil)))) (ih _ _ _ _ _ h hq)
        · replace h := z_iff c457 h
          refine g_iconst (v := (0 : Int32)) dL_law_1658 (by decide) ?_
          cases h
          exact g_iret dL_law_1659 rfl rfl hq
      replace h := z_iff s450 h
      by_cases s458 : (xs x3.toNatClampNeg) &&& (63 : Int32) = (49 : Int32)
      · replace h := z_ift s458 h
        refine g_top (v := (49 : Int32)) s458 ?_
        refine g_tsIn (off := 1627) (t := 1660) dL_law_33 (by decide) (by decide) (by decide) ?_
        refine g_aload_n dL_law_1660 rfl rfl ?_
        refine g_aload_n dL_law_1661 rfl rfl ?_
        refine g_iload_n dL_law_1662 rfl rfl ?_
        refine g_iconst (v := (1 : Int32)) dL_law_1663 (by decide) ?_
        refine g_iadd dL_law_1664 ?_
        by_cases g459 : (x3 + (1 : Int32)) < 0 ∨ L ≤ (x3 + (1 : Int32)).toNatClampNeg
        · rw [if_pos g459] at h; cases h
        replace h := z_iff g459 h
        refine g_sld dL_law_1665 g459 ?_
        obtain ⟨q460, e461, h⟩ := z_bd h
        refine g_callV (a := 0) (as := [.int (xs (x3 + (1 : Int32)).toNatClampNeg)]) (rest := []) (c := mX11_live) (k1 := 7) dL_law_1666 rfl rfl rfl sh_0 rfl rfl (Nat.le_of_ble_eq_true rfl) (Nat.le_of_ble_eq_true rfl) (by decide) ?_
        refine A_X11_live e461 ?_
        show z_G (some (L, xs)) 29 mL_law 1669 [some (.ref 0), some (.ref 2), some (.ref 139), some (.int x3)] [.int q460.1] q460.2 Q
        refine g_aload_n dL_law_1669 rfl rfl ?_
        refine g_aload_n dL_law_1670 rfl rfl ?_
        refine g_iload_n dL_law_1671 rfl rfl ?_
        refine g_iconst (v := (1 : Int32)) dL_law_1672 (by decide) ?_
        refine g_iadd dL_law_1673 ?_
        by_cases g462 : (x3 + (1 : Int32)) < 0 ∨ L ≤ (x3 + (1 : Int32)).toNatClampNeg
        · rw [if_pos g462] at h; cases h
        replace h := z_iff g462 h
        refine g_sld dL_law_1674 g462 ?_
        obtain ⟨q463, e464, h⟩ := z_bd h
        refine g_callV (a := 137) (as := [.int (xs (x3 + (1 : Int32)).toNatClampNeg)]) (rest := [.int q460.1]) (c := mX12_live) (k1 := 28) dL_law_1675 rfl rfl rfl sh_137 rfl rfl (Nat.le_of_ble_eq_true rfl) (Nat.le_of_ble_eq_true rfl) (by decide) ?_
        refine A_X12_live e464 ?_
        show z_G (some (L, xs)) 29 mL_law 1678 [some (.ref 0), some (.ref 2), some (.ref 139), some (.int x3)] [.int q463.1, .int q460.1] q463.2 Q
        refine g_ic_eq (t := 1765) dL_law_1678 (by decide) (fun c465 => ?_) (fun c465 => ?_)
        · replace h := z_ift c465 h
          refine g_iinc (v := x3 + (6 : Int32)) (ls' := [some (.ref 0), some (.ref 2), some (.ref 139), some (.int (x3 + (6 : Int32)))]) dL_law_1765 rfl rfl rfl ?_
          refine g_goto (t := 18) dL_law_1768 (by decide) ?_
          exact g_sub (z_sub_s (z_sub_s (z_sub_s (z_sub_s z_sub_nil)))) (ih _ _ _ _ _ h hq)
        · replace h := z_iff c465 h
          refine g_iconst (v := (0 : Int32)) dL_law_1681 (by decide) ?_
          cases h
          exact g_iret dL_law_1682 rfl rfl hq
      replace h := z_iff s458 h
      by_cases s466 : (xs x3.toNatClampNeg) &&& (63 : Int32) = (50 : Int32)
      · replace h := z_ift s466 h
        refine g_top (v := (50 : Int32)) s466 ?_
        refine g_tsIn (off := 1650) (t := 1683) dL_law_33 (by decide) (by decide) (by decide) ?_
        refine g_aload_n dL_law_1683 rfl rfl ?_
        refine g_aload_n dL_law_1684 rfl rfl ?_
        refine g_iload_n dL_law_1685 rfl rfl ?_
        refine g_iconst (v := (1 : Int32)) dL_law_1686 (by decide) ?_
        refine g_iadd dL_law_1687 ?_
        by_cases g467 : (x3 + (1 : Int32)) < 0 ∨ L ≤ (x3 + (1 : Int32)).toNatClampNeg
        · rw [if_pos g467] at h; cases h
        replace h := z_iff g467 h
        refine g_sld dL_law_1688 g467 ?_
        obtain ⟨q468, e469, h⟩ := z_bd h
        refine g_callV (a := 0) (as := [.int (xs (x3 + (1 : Int32)).toNatClampNeg)]) (rest := []) (c := mX11_lived) (k1 := 1) dL_law_1689 rfl rfl rfl sh_0 rfl rfl (Nat.le_of_ble_eq_true rfl) (Nat.le_of_ble_eq_true rfl) (by decide) ?_
        refine A_X11_lived e469 ?_
        show z_G (some (L, xs)) 29 mL_law 1692 [some (.ref 0), some (.ref 2), some (.ref 139), some (.int x3)] [.int q468.1] q468.2 Q
        refine g_aload_n dL_law_1692 rfl rfl ?_
        refine g_aload_n dL_law_1693 rfl rfl ?_
        refine g_iload_n dL_law_1694 rfl rfl ?_
        refine g_iconst (v := (1 : Int32)) dL_law_1695 (by decide) ?_
        refine g_iadd dL_law_1696 ?_
        by_cases g470 : (x3 + (1 : Int32)) < 0 ∨ L ≤ (x3 + (1 : Int32)).toNatClampNeg
        · rw [if_pos g470] at h; cases h
        replace h := z_iff g470 h
        refine g_sld dL_law_1697 g470 ?_
        obtain ⟨q471, e472, h⟩ := z_bd h
        refine g_callV (a := 137) (as := [.int (xs (x3 + (1 : Int32)).toNatClampNeg)]) (rest := [.int q468.1]) (c := mX12_lived) (k1 := 1) dL_law_1698 rfl rfl rfl sh_137 rfl rfl (Nat.le_of_ble_eq_true rfl) (Nat.le_of_ble_eq_true rfl) (by decide) ?_
        refine A_X12_lived e472 ?_
        show z_G (some (L, xs)) 29 mL_law 1701 [some (.ref 0), some (.ref 2), some (.ref 139), some (.int x3)] [.int q471.1, .int q468.1] q471.2 Q
        refine g_ic_eq (t := 1765) dL_law_1701 (by decide) (fun c473 => ?_) (fun c473 => ?_)
        · replace h := z_ift c473 h
          refine g_iinc (v := x3 + (6 : Int32)) (ls' := [some (.ref 0), some (.ref 2), some (.ref 139), some (.int (x3 + (6 : Int32)))]) dL_law_1765 rfl rfl rfl ?_
          refine g_goto (t := 18) dL_law_1768 (by decide) ?_
          exact g_sub (z_sub_s (z_sub_s (z_sub_s (z_sub_s z_sub_nil)))) (ih _ _ _ _ _ h hq)
        · replace h := z_iff c473 h
          refine g_iconst (v := (0 : Int32)) dL_law_1704 (by decide) ?_
          cases h
          exact g_iret dL_law_1705 rfl rfl hq
      replace h := z_iff s466 h
      by_cases s474 : (xs x3.toNatClampNeg) &&& (63 : Int32) = (51 : Int32)
      · replace h := z_ift s474 h
        refine g_top (v := (51 : Int32)) s474 ?_
        refine g_tsIn (off := 1673) (t := 1706) dL_law_33 (by decide) (by decide) (by decide) ?_
        refine g_aload_n dL_law_1706 rfl rfl ?_
        refine g_aload_n dL_law_1707 rfl rfl ?_
        refine g_iload_n dL_law_1708 rfl rfl ?_
        refine g_iconst (v := (1 : Int32)) dL_law_1709 (by decide) ?_
        refine g_iadd dL_law_1710 ?_
        by_cases g475 : (x3 + (1 : Int32)) < 0 ∨ L ≤ (x3 + (1 : Int32)).toNatClampNeg
        · rw [if_pos g475] at h; cases h
        replace h := z_iff g475 h
        refine g_sld dL_law_1711 g475 ?_
        refine g_aload_n dL_law_1712 rfl rfl ?_
        refine g_iload_n dL_law_1713 rfl rfl ?_
        refine g_iconst (v := (2 : Int32)) dL_law_1714 (by decide) ?_
        refine g_iadd dL_law_1715 ?_
        by_cases g476 : (x3 + (2 : Int32)) < 0 ∨ L ≤ (x3 + (2 : Int32)).toNatClampNeg
        · rw [if_pos g476] at h; cases h
        replace h := z_iff g476 h
        refine g_sld dL_law_1716 g476 ?_
        obtain ⟨q477, e478, h⟩ := z_bd h
        refine g_callV (a := 0) (as := [.int (xs (x3 + (1 : Int32)).toNatClampNeg), .int (xs (x3 + (2 : Int32)).toNatClampNeg)]) (rest := []) (c := mX11_mean) (k1 := 7) dL_law_1717 rfl rfl rfl sh_0 rfl rfl (Nat.le_of_ble_eq_true rfl) (Nat.le_of_ble_eq_true rfl) (by decide) ?_
        refine A_X11_mean e478 ?_
        show z_G (some (L, xs)) 29 mL_law 1720 [some (.ref 0), some (.ref 2), some (.ref 139), some (.int x3)] [.int (z_tb q477.1)] q477.2 Q
        refine g_aload_n dL_law_1720 rfl rfl ?_
        refine g_aload_n dL_law_1721 rfl rfl ?_
        refine g_iload_n dL_law_1722 rfl rfl ?_
        refine g_iconst (v := (1 : Int32)) dL_law_1723 (by decide) ?_
        refine g_iadd dL_law_1724 ?_
        by_cases g479 : (x3 + (1 : Int32)) < 0 ∨ L ≤ (x3 + (1 : Int32)).toNatClampNeg
        · rw [if_pos g479] at h; cases h
        replace h := z_iff g479 h
        refine g_sld dL_law_1725 g479 ?_
        refine g_aload_n dL_law_1726 rfl rfl ?_
        refine g_iload_n dL_law_1727 rfl rfl ?_
        refine g_iconst (v := (2 : Int32)) dL_law_1728 (by decide) ?_
        refine g_iadd dL_law_1729 ?_
        by_cases g480 : (x3 + (2 : Int32)) < 0 ∨ L ≤ (x3 + (2 : Int32)).toNatClampNeg
        · rw [if_pos g480] at h; cases h
        replace h := z_iff g480 h
        refine g_sld dL_law_1730 g480 ?_
        obtain ⟨q481, e482, h⟩ := z_bd h
        refine g_callV (a := 137) (as := [.int (xs (x3 + (1 : Int32)).toNatClampNeg), .int (xs (x3 + (2 : Int32)).toNatClampNeg)]) (rest := [.int (z_tb q477.1)]) (c := mX12_mean) (k1 := 28) dL_law_1731 rfl rfl rfl sh_137 rfl rfl (Nat.le_of_ble_eq_true rfl) (Nat.le_of_ble_eq_true rfl) (by decide) ?_
        refine A_X12_mean e482 ?_
        show z_G (some (L, xs)) 29 mL_law 1734 [some (.ref 0), some (.ref 2), some (.ref 139), some (.int x3)] [.int (z_tb q481.1), .int (z_tb q477.1)] q481.2 Q
        refine g_ic_eq (t := 1765) dL_law_1734 (by decide) (fun c483 => ?_) (fun c483 => ?_)
        · replace h := z_ift c483 h
          refine g_iinc (v := x3 + (6 : Int32)) (ls' := [some (.ref 0), some (.ref 2), some (.ref 139), some (.int (x3 + (6 : Int32)))]) dL_law_1765 rfl rfl rfl ?_
          refine g_goto (t := 18) dL_law_1768 (by decide) ?_
          exact g_sub (z_sub_s (z_sub_s (z_sub_s (z_sub_s z_sub_nil)))) (ih _ _ _ _ _ h hq)
        · replace h := z_iff c483 h
          refine g_iconst (v := (0 : Int32)) dL_law_1737 (by decide) ?_
          cases h
          exact g_iret dL_law_1738 rfl rfl hq
      replace h := z_iff s474 h
      by_cases s484 : (xs x3.toNatClampNeg) &&& (63 : Int32) = (52 : Int32)
      · replace h := z_ift s484 h
        refine g_top (v := (52 : Int32)) s484 ?_
        refine g_tsIn (off := 1706) (t := 1739) dL_law_33 (by decide) (by decide) (by decide) ?_
        refine g_aload_n dL_law_1739 rfl rfl ?_
        obtain ⟨q485, e486, h⟩ := z_bd h
        refine g_callV (a := 0) (as := []) (rest := []) (c := mX11_mark) (k1 := 3) dL_law_1740 rfl rfl rfl sh_0 rfl rfl (Nat.le_of_ble_eq_true rfl) (Nat.le_of_ble_eq_true rfl) (by decide) ?_
        refine A_X11_mark e486 ?_
        show z_G (some (L, xs)) 29 mL_law 1743 [some (.ref 0), some (.ref 2), some (.ref 139), some (.int x3)] [.int q485.1] q485.2 Q
        refine g_aload_n dL_law_1743 rfl rfl ?_
        obtain ⟨q487, e488, h⟩ := z_bd h
        refine g_callV (a := 137) (as := []) (rest := [.int q485.1]) (c := mX12_mark) (k1 := 1) dL_law_1744 rfl rfl rfl sh_137 rfl rfl (Nat.le_of_ble_eq_true rfl) (Nat.le_of_ble_eq_true rfl) (by decide) ?_
        refine A_X12_mark e488 ?_
        show z_G (some (L, xs)) 29 mL_law 1747 [some (.ref 0), some (.ref 2), some (.ref 139), some (.int x3)] [.int q487.1, .int q485.1] q487.2 Q
        refine g_ic_eq (t := 1765) dL_law_1747 (by decide) (fun c489 => ?_) (fun c489 => ?_)
        · replace h := z_ift c489 h
          refine g_iinc (v := x3 + (6 : Int32)) (ls' := [some (.ref 0), some (.ref 2), some (.ref 139), some (.int (x3 + (6 : Int32)))]) dL_law_1765 rfl rfl rfl ?_
          refine g_goto (t := 18) dL_law_1768 (by decide) ?_
          exact g_sub (z_sub_s (z_sub_s (z_sub_s (z_sub_s z_sub_nil)))) (ih _ _ _ _ _ h hq)
        · replace h := z_iff c489 h
          refine g_iconst (v := (0 : Int32)) dL_law_1750 (by decide) ?_
          cases h
          exact g_iret dL_law_1751 rfl rfl hq
      replace h := z_iff s484 h
      by_cases s490 : (xs x3.toNatClampNeg) &&& (63 : Int32) = (53 : Int32)
      · replace h := z_ift s490 h
        refine g_top (v := (53 : Int32)) s490 ?_
        refine g_tsIn (off := 1719) (t := 1752) dL_law_33 (by decide) (by decide) (by decide) ?_
        refine g_aload_n dL_law_1752 rfl rfl ?_
        obtain ⟨q491, e492, h⟩ := z_bd h
        refine g_callV (a := 0) (as := []) (rest := []) (c := mX11_back) (k1 := 3) dL_law_1753 rfl rfl rfl sh_0 rfl rfl (Nat.le_of_ble_eq_true rfl) (Nat.le_of_ble_eq_true rfl) (by decide) ?_
        refine A_X11_back e492 ?_
        show z_G (some (L, xs)) 29 mL_law 1756 [some (.ref 0), some (.ref 2), some (.ref 139), some (.int x3)] [.int q491.1] q491.2 Q
        refine g_aload_n dL_law_1756 rfl rfl ?_
        obtain ⟨q493, e494, h⟩ := z_bd h
        refine g_callV (a := 137) (as := []) (rest := [.int q491.1]) (c := mX12_back) (k1 := 1) dL_law_1757 rfl rfl rfl sh_137 rfl rfl (Nat.le_of_ble_eq_true rfl) (Nat.le_of_ble_eq_true rfl) (by decide) ?_
        refine A_X12_back e494 ?_
        show z_G (some (L, xs)) 29 mL_law 1760 [some (.ref 0), some (.ref 2), some (.ref 139), some (.int x3)] [.int q493.1, .int q491.1] q493.2 Q
        refine g_ic_eq (t := 1765) dL_law_1760 (by decide) (fun c495 => ?_) (fun c495 => ?_)
        · replace h := z_ift c495 h
          refine g_iinc (v := x3 + (6 : Int32)) (ls' := [some (.ref 0), some (.ref 2), some (.ref 139), some (.int (x3 + (6 : Int32)))]) dL_law_1765 rfl rfl rfl ?_
          refine g_goto (t := 18) dL_law_1768 (by decide) ?_
          exact g_sub (z_sub_s (z_sub_s (z_sub_s (z_sub_s z_sub_nil)))) (ih _ _ _ _ _ h hq)
        · replace h := z_iff c495 h
          refine g_iconst (v := (0 : Int32)) dL_law_1763 (by decide) ?_
          cases h
          exact g_iret dL_law_1764 rfl rfl hq
      replace h := z_iff s490 h
      refine g_tsOut (t := 1765) dL_law_33 (by have t0 := z_neL (n := 0) (by decide) s3; have t1 := z_neL (n := 1) (by decide) s9; have t2 := z_neL (n := 2) (by decide) s15; have t3 := z_neL (n := 3) (by decide) s21; have t4 := z_neL (n := 4) (by decide) s33; have t5 := z_neL (n := 5) (by decide) s47; have t6 := z_neL (n := 6) (by decide) s57; have t7 := z_neL (n := 7) (by decide) s73; have t8 := z_neL (n := 8) (by decide) s89; have t9 := z_neL (n := 9) (by decide) s97; have t10 := z_neL (n := 10) (by decide) s105; have t11 := z_neL (n := 11) (by decide) s113; have t12 := z_neL (n := 12) (by decide) s121; have t13 := z_neL (n := 13) (by decide) s129; have t14 := z_neL (n := 14) (by decide) s139; have t15 := z_neL (n := 15) (by decide) s149; have t16 := z_neL (n := 16) (by decide) s157; have t17 := z_neL (n := 17) (by decide) s165; have t18 := z_neL (n := 18) (by decide) s175; have t19 := z_neL (n := 19) (by decide) s185; have t20 := z_neL (n := 20) (by decide) s193; have t21 := z_neL (n := 21) (by decide) s201; have t22 := z_neL (n := 22) (by decide) s211; have t23 := z_neL (n := 23) (by decide) s223; have t24 := z_neL (n := 24) (by decide) s231; have t25 := z_neL (n := 25) (by decide) s241; have t26 := z_neL (n := 26) (by decide) s270; have t27 := z_neL (n := 27) (by decide) s286; have t28 := z_neL (n := 28) (by decide) s296; have t29 := z_neL (n := 29) (by decide) s306; have t30 := z_neL (n := 30) (by decide) s312; have t31 := z_neL (n := 31) (by decide) s318; have t32 := z_neL (n := 32) (by decide) s328; have t33 := z_neL (n := 33) (by decide) s336; have t34 := z_neL (n := 34) (by decide) s344; have t35 := z_neL (n := 35) (by decide) s352; have t36 := z_neL (n := 36) (by decide) s362; have t37 := z_neL (n := 37) (by decide) s370; have t38 := z_neL (n := 38) (by decide) s378; have t39 := z_neL (n := 39) (by decide) s384; have t40 := z_neL (n := 40) (by decide) s392; have t41 := z_neL (n := 41) (by decide) s398; have t42 := z_neL (n := 42) (by decide) s406; have t43 := z_neL (n := 43) (by decide) s412; have t44 := z_neL (n := 44) (by decide) s418; have t45 := z_neL (n := 45) (by decide) s426; have t46 := z_neL (n := 46) (by decide) s434; have t47 := z_neL (n := 47) (by decide) s442; have t48 := z_neL (n := 48) (by decide) s450; have t49 := z_neL (n := 49) (by decide) s458; have t50 := z_neL (n := 50) (by decide) s466; have t51 := z_neL (n := 51) (by decide) s474; have t52 := z_neL (n := 52) (by decide) s484; have t53 := z_neL (n := 53) (by decide) s490; omega) (by decide) ?_
      refine g_iinc (v := x3 + (6 : Int32)) (ls' := [some (.ref 0), some (.ref 2), some (.ref 139), some (.int (x3 + (6 : Int32)))]) dL_law_1765 rfl rfl rfl ?_
      refine g_goto (t := 18) dL_law_1768 (by decide) ?_
      exact g_sub (z_sub_s (z_sub_s (z_sub_s (z_sub_s z_sub_nil)))) (ih _ _ _ _ _ h hq)
