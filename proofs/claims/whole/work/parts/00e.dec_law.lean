theorem d_L_law_0 : decode code 0 = .ok (.new 7, 3) := by decide +kernel
theorem d_L_law_3 : decode code 3 = .ok (.dup, 1) := by decide +kernel
theorem d_L_law_4 : decode code 4 = .ok (.invokespecial 9, 3) := by decide +kernel
theorem d_L_law_7 : decode code 7 = .ok (.astore_n 1, 1) := by decide +kernel
theorem d_L_law_8 : decode code 8 = .ok (.new 10, 3) := by decide +kernel
theorem d_L_law_11 : decode code 11 = .ok (.dup, 1) := by decide +kernel
theorem d_L_law_12 : decode code 12 = .ok (.invokespecial 12, 3) := by decide +kernel
theorem d_L_law_15 : decode code 15 = .ok (.astore_n 2, 1) := by decide +kernel
theorem d_L_law_16 : decode code 16 = .ok (.iconst 0, 1) := by decide +kernel
theorem d_L_law_17 : decode code 17 = .ok (.istore_n 3, 1) := by decide +kernel
theorem d_L_law_18 : decode code 18 = .ok (.iload_n 3, 1) := by decide +kernel
theorem d_L_law_19 : decode code 19 = .ok (.aload_n 0, 1) := by decide +kernel
theorem d_L_law_20 : decode code 20 = .ok (.arraylength, 1) := by decide +kernel
theorem d_L_law_21 : decode code 21 = .ok (.iconst 5, 1) := by decide +kernel
theorem d_L_law_22 : decode code 22 = .ok (.isub, 1) := by decide +kernel
theorem d_L_law_23 : decode code 23 = .ok (.if_icmp .gt 1696, 3) := by decide +kernel
theorem d_L_law_26 : decode code 26 = .ok (.aload_n 0, 1) := by decide +kernel
theorem d_L_law_27 : decode code 27 = .ok (.iload_n 3, 1) := by decide +kernel
theorem d_L_law_28 : decode code 28 = .ok (.iaload, 1) := by decide +kernel
theorem d_L_law_29 : decode code 29 = .ok (.bipush 63, 2) := by decide +kernel
theorem d_L_law_31 : decode code 31 = .ok (.iand, 1) := by decide +kernel
theorem d_L_law_32 : decode code 32 = .ok (.tableswitch 1681 0 54 #[236, 289, 322, 365, 398, 421, 454, 517, 530, 553, 566, 579, 592, 605, 638, 661, 694, 727, 760, 773, 786, 799, 812, 825, 848, 881, 904, 917, 940, 953, 976, 999, 1022, 1055, 1068, 1091, 1104, 1127, 1140, 1163, 1186, 1219, 1262, 1275, 1318, 1361, 1404, 1447, 1490, 1533, 1566, 1609, 1632, 1655, 1668], 236) := by decide +kernel
theorem d_L_law_268 : decode code 268 = .ok (.aload_n 1, 1) := by decide +kernel
theorem d_L_law_269 : decode code 269 = .ok (.aload_n 0, 1) := by decide +kernel
theorem d_L_law_270 : decode code 270 = .ok (.iload_n 3, 1) := by decide +kernel
theorem d_L_law_271 : decode code 271 = .ok (.iconst 1, 1) := by decide +kernel
theorem d_L_law_272 : decode code 272 = .ok (.iadd, 1) := by decide +kernel
theorem d_L_law_273 : decode code 273 = .ok (.iaload, 1) := by decide +kernel
theorem d_L_law_274 : decode code 274 = .ok (.aload_n 0, 1) := by decide +kernel
theorem d_L_law_275 : decode code 275 = .ok (.iload_n 3, 1) := by decide +kernel
theorem d_L_law_276 : decode code 276 = .ok (.iconst 2, 1) := by decide +kernel
theorem d_L_law_277 : decode code 277 = .ok (.iadd, 1) := by decide +kernel
theorem d_L_law_278 : decode code 278 = .ok (.iaload, 1) := by decide +kernel
theorem d_L_law_279 : decode code 279 = .ok (.aload_n 0, 1) := by decide +kernel
theorem d_L_law_280 : decode code 280 = .ok (.iload_n 3, 1) := by decide +kernel
theorem d_L_law_281 : decode code 281 = .ok (.iconst 3, 1) := by decide +kernel
theorem d_L_law_282 : decode code 282 = .ok (.iadd, 1) := by decide +kernel
theorem d_L_law_283 : decode code 283 = .ok (.iaload, 1) := by decide +kernel
theorem d_L_law_284 : decode code 284 = .ok (.aload_n 0, 1) := by decide +kernel
theorem d_L_law_285 : decode code 285 = .ok (.iload_n 3, 1) := by decide +kernel
theorem d_L_law_286 : decode code 286 = .ok (.iconst 4, 1) := by decide +kernel
theorem d_L_law_287 : decode code 287 = .ok (.iadd, 1) := by decide +kernel
theorem d_L_law_288 : decode code 288 = .ok (.iaload, 1) := by decide +kernel
theorem d_L_law_289 : decode code 289 = .ok (.invokevirtual 13, 3) := by decide +kernel
theorem d_L_law_292 : decode code 292 = .ok (.aload_n 2, 1) := by decide +kernel
theorem d_L_law_293 : decode code 293 = .ok (.aload_n 0, 1) := by decide +kernel
theorem d_L_law_294 : decode code 294 = .ok (.iload_n 3, 1) := by decide +kernel
theorem d_L_law_295 : decode code 295 = .ok (.iconst 1, 1) := by decide +kernel
theorem d_L_law_296 : decode code 296 = .ok (.iadd, 1) := by decide +kernel
theorem d_L_law_297 : decode code 297 = .ok (.iaload, 1) := by decide +kernel
theorem d_L_law_298 : decode code 298 = .ok (.aload_n 0, 1) := by decide +kernel
theorem d_L_law_299 : decode code 299 = .ok (.iload_n 3, 1) := by decide +kernel
theorem d_L_law_300 : decode code 300 = .ok (.iconst 2, 1) := by decide +kernel
theorem d_L_law_301 : decode code 301 = .ok (.iadd, 1) := by decide +kernel
theorem d_L_law_302 : decode code 302 = .ok (.iaload, 1) := by decide +kernel
theorem d_L_law_303 : decode code 303 = .ok (.aload_n 0, 1) := by decide +kernel
theorem d_L_law_304 : decode code 304 = .ok (.iload_n 3, 1) := by decide +kernel
theorem d_L_law_305 : decode code 305 = .ok (.iconst 3, 1) := by decide +kernel
theorem d_L_law_306 : decode code 306 = .ok (.iadd, 1) := by decide +kernel
theorem d_L_law_307 : decode code 307 = .ok (.iaload, 1) := by decide +kernel
theorem d_L_law_308 : decode code 308 = .ok (.aload_n 0, 1) := by decide +kernel
theorem d_L_law_309 : decode code 309 = .ok (.iload_n 3, 1) := by decide +kernel
theorem d_L_law_310 : decode code 310 = .ok (.iconst 4, 1) := by decide +kernel
theorem d_L_law_311 : decode code 311 = .ok (.iadd, 1) := by decide +kernel
theorem d_L_law_312 : decode code 312 = .ok (.iaload, 1) := by decide +kernel
theorem d_L_law_313 : decode code 313 = .ok (.invokevirtual 17, 3) := by decide +kernel
theorem d_L_law_316 : decode code 316 = .ok (.if_icmp .eq 1397, 3) := by decide +kernel
theorem d_L_law_319 : decode code 319 = .ok (.iconst 0, 1) := by decide +kernel
theorem d_L_law_320 : decode code 320 = .ok (.ireturn, 1) := by decide +kernel
theorem d_L_law_321 : decode code 321 = .ok (.aload_n 1, 1) := by decide +kernel
theorem d_L_law_322 : decode code 322 = .ok (.aload_n 0, 1) := by decide +kernel
theorem d_L_law_323 : decode code 323 = .ok (.iload_n 3, 1) := by decide +kernel
theorem d_L_law_324 : decode code 324 = .ok (.iconst 1, 1) := by decide +kernel
theorem d_L_law_325 : decode code 325 = .ok (.iadd, 1) := by decide +kernel
theorem d_L_law_326 : decode code 326 = .ok (.iaload, 1) := by decide +kernel
theorem d_L_law_327 : decode code 327 = .ok (.aload_n 0, 1) := by decide +kernel
theorem d_L_law_328 : decode code 328 = .ok (.iload_n 3, 1) := by decide +kernel
theorem d_L_law_329 : decode code 329 = .ok (.iconst 2, 1) := by decide +kernel
theorem d_L_law_330 : decode code 330 = .ok (.iadd, 1) := by decide +kernel
theorem d_L_law_331 : decode code 331 = .ok (.iaload, 1) := by decide +kernel
theorem d_L_law_332 : decode code 332 = .ok (.invokevirtual 18, 3) := by decide +kernel
theorem d_L_law_335 : decode code 335 = .ok (.aload_n 2, 1) := by decide +kernel
theorem d_L_law_336 : decode code 336 = .ok (.aload_n 0, 1) := by decide +kernel
theorem d_L_law_337 : decode code 337 = .ok (.iload_n 3, 1) := by decide +kernel
theorem d_L_law_338 : decode code 338 = .ok (.iconst 1, 1) := by decide +kernel
theorem d_L_law_339 : decode code 339 = .ok (.iadd, 1) := by decide +kernel
theorem d_L_law_340 : decode code 340 = .ok (.iaload, 1) := by decide +kernel
theorem d_L_law_341 : decode code 341 = .ok (.aload_n 0, 1) := by decide +kernel
theorem d_L_law_342 : decode code 342 = .ok (.iload_n 3, 1) := by decide +kernel
theorem d_L_law_343 : decode code 343 = .ok (.iconst 2, 1) := by decide +kernel
theorem d_L_law_344 : decode code 344 = .ok (.iadd, 1) := by decide +kernel
theorem d_L_law_345 : decode code 345 = .ok (.iaload, 1) := by decide +kernel
theorem d_L_law_346 : decode code 346 = .ok (.invokevirtual 22, 3) := by decide +kernel
theorem d_L_law_349 : decode code 349 = .ok (.if_icmp .eq 1364, 3) := by decide +kernel
theorem d_L_law_352 : decode code 352 = .ok (.iconst 0, 1) := by decide +kernel
theorem d_L_law_353 : decode code 353 = .ok (.ireturn, 1) := by decide +kernel
theorem d_L_law_354 : decode code 354 = .ok (.aload_n 1, 1) := by decide +kernel
theorem d_L_law_355 : decode code 355 = .ok (.aload_n 0, 1) := by decide +kernel
theorem d_L_law_356 : decode code 356 = .ok (.iload_n 3, 1) := by decide +kernel
theorem d_L_law_357 : decode code 357 = .ok (.iconst 1, 1) := by decide +kernel
theorem d_L_law_358 : decode code 358 = .ok (.iadd, 1) := by decide +kernel
theorem d_L_law_359 : decode code 359 = .ok (.iaload, 1) := by decide +kernel
theorem d_L_law_360 : decode code 360 = .ok (.aload_n 0, 1) := by decide +kernel
theorem d_L_law_361 : decode code 361 = .ok (.iload_n 3, 1) := by decide +kernel
theorem d_L_law_362 : decode code 362 = .ok (.iconst 2, 1) := by decide +kernel
theorem d_L_law_363 : decode code 363 = .ok (.iadd, 1) := by decide +kernel
theorem d_L_law_364 : decode code 364 = .ok (.iaload, 1) := by decide +kernel
theorem d_L_law_365 : decode code 365 = .ok (.aload_n 0, 1) := by decide +kernel
theorem d_L_law_366 : decode code 366 = .ok (.iload_n 3, 1) := by decide +kernel
theorem d_L_law_367 : decode code 367 = .ok (.iconst 3, 1) := by decide +kernel
theorem d_L_law_368 : decode code 368 = .ok (.iadd, 1) := by decide +kernel
theorem d_L_law_369 : decode code 369 = .ok (.iaload, 1) := by decide +kernel
theorem d_L_law_370 : decode code 370 = .ok (.invokevirtual 23, 3) := by decide +kernel
theorem d_L_law_373 : decode code 373 = .ok (.aload_n 2, 1) := by decide +kernel
theorem d_L_law_374 : decode code 374 = .ok (.aload_n 0, 1) := by decide +kernel
theorem d_L_law_375 : decode code 375 = .ok (.iload_n 3, 1) := by decide +kernel
theorem d_L_law_376 : decode code 376 = .ok (.iconst 1, 1) := by decide +kernel
theorem d_L_law_377 : decode code 377 = .ok (.iadd, 1) := by decide +kernel
theorem d_L_law_378 : decode code 378 = .ok (.iaload, 1) := by decide +kernel
theorem d_L_law_379 : decode code 379 = .ok (.aload_n 0, 1) := by decide +kernel
theorem d_L_law_380 : decode code 380 = .ok (.iload_n 3, 1) := by decide +kernel
theorem d_L_law_381 : decode code 381 = .ok (.iconst 2, 1) := by decide +kernel
theorem d_L_law_382 : decode code 382 = .ok (.iadd, 1) := by decide +kernel
theorem d_L_law_383 : decode code 383 = .ok (.iaload, 1) := by decide +kernel
theorem d_L_law_384 : decode code 384 = .ok (.aload_n 0, 1) := by decide +kernel
theorem d_L_law_385 : decode code 385 = .ok (.iload_n 3, 1) := by decide +kernel
theorem d_L_law_386 : decode code 386 = .ok (.iconst 3, 1) := by decide +kernel
theorem d_L_law_387 : decode code 387 = .ok (.iadd, 1) := by decide +kernel
theorem d_L_law_388 : decode code 388 = .ok (.iaload, 1) := by decide +kernel
theorem d_L_law_389 : decode code 389 = .ok (.invokevirtual 27, 3) := by decide +kernel
theorem d_L_law_392 : decode code 392 = .ok (.if_icmp .eq 1321, 3) := by decide +kernel
theorem d_L_law_395 : decode code 395 = .ok (.iconst 0, 1) := by decide +kernel
theorem d_L_law_396 : decode code 396 = .ok (.ireturn, 1) := by decide +kernel
theorem d_L_law_397 : decode code 397 = .ok (.aload_n 1, 1) := by decide +kernel
theorem d_L_law_398 : decode code 398 = .ok (.aload_n 0, 1) := by decide +kernel
theorem d_L_law_399 : decode code 399 = .ok (.iload_n 3, 1) := by decide +kernel
theorem d_L_law_400 : decode code 400 = .ok (.iconst 1, 1) := by decide +kernel
theorem d_L_law_401 : decode code 401 = .ok (.iadd, 1) := by decide +kernel
theorem d_L_law_402 : decode code 402 = .ok (.iaload, 1) := by decide +kernel
theorem d_L_law_403 : decode code 403 = .ok (.aload_n 0, 1) := by decide +kernel
theorem d_L_law_404 : decode code 404 = .ok (.iload_n 3, 1) := by decide +kernel
theorem d_L_law_405 : decode code 405 = .ok (.iconst 2, 1) := by decide +kernel
theorem d_L_law_406 : decode code 406 = .ok (.iadd, 1) := by decide +kernel
theorem d_L_law_407 : decode code 407 = .ok (.iaload, 1) := by decide +kernel
theorem d_L_law_408 : decode code 408 = .ok (.invokevirtual 28, 3) := by decide +kernel
theorem d_L_law_411 : decode code 411 = .ok (.aload_n 2, 1) := by decide +kernel
theorem d_L_law_412 : decode code 412 = .ok (.aload_n 0, 1) := by decide +kernel
theorem d_L_law_413 : decode code 413 = .ok (.iload_n 3, 1) := by decide +kernel
theorem d_L_law_414 : decode code 414 = .ok (.iconst 1, 1) := by decide +kernel
theorem d_L_law_415 : decode code 415 = .ok (.iadd, 1) := by decide +kernel
theorem d_L_law_416 : decode code 416 = .ok (.iaload, 1) := by decide +kernel
theorem d_L_law_417 : decode code 417 = .ok (.aload_n 0, 1) := by decide +kernel
theorem d_L_law_418 : decode code 418 = .ok (.iload_n 3, 1) := by decide +kernel
theorem d_L_law_419 : decode code 419 = .ok (.iconst 2, 1) := by decide +kernel
theorem d_L_law_420 : decode code 420 = .ok (.iadd, 1) := by decide +kernel
theorem d_L_law_421 : decode code 421 = .ok (.iaload, 1) := by decide +kernel
theorem d_L_law_422 : decode code 422 = .ok (.invokevirtual 31, 3) := by decide +kernel
theorem d_L_law_425 : decode code 425 = .ok (.if_icmp .eq 1288, 3) := by decide +kernel
theorem d_L_law_428 : decode code 428 = .ok (.iconst 0, 1) := by decide +kernel
theorem d_L_law_429 : decode code 429 = .ok (.ireturn, 1) := by decide +kernel
theorem d_L_law_430 : decode code 430 = .ok (.aload_n 1, 1) := by decide +kernel
theorem d_L_law_431 : decode code 431 = .ok (.aload_n 0, 1) := by decide +kernel
theorem d_L_law_432 : decode code 432 = .ok (.iload_n 3, 1) := by decide +kernel
theorem d_L_law_433 : decode code 433 = .ok (.iconst 1, 1) := by decide +kernel
theorem d_L_law_434 : decode code 434 = .ok (.iadd, 1) := by decide +kernel
theorem d_L_law_435 : decode code 435 = .ok (.iaload, 1) := by decide +kernel
theorem d_L_law_436 : decode code 436 = .ok (.invokevirtual 32, 3) := by decide +kernel
theorem d_L_law_439 : decode code 439 = .ok (.aload_n 2, 1) := by decide +kernel
theorem d_L_law_440 : decode code 440 = .ok (.aload_n 0, 1) := by decide +kernel
theorem d_L_law_441 : decode code 441 = .ok (.iload_n 3, 1) := by decide +kernel
theorem d_L_law_442 : decode code 442 = .ok (.iconst 1, 1) := by decide +kernel
theorem d_L_law_443 : decode code 443 = .ok (.iadd, 1) := by decide +kernel
theorem d_L_law_444 : decode code 444 = .ok (.iaload, 1) := by decide +kernel
theorem d_L_law_445 : decode code 445 = .ok (.invokevirtual 36, 3) := by decide +kernel
theorem d_L_law_448 : decode code 448 = .ok (.if_icmp .eq 1265, 3) := by decide +kernel
theorem d_L_law_451 : decode code 451 = .ok (.iconst 0, 1) := by decide +kernel
theorem d_L_law_452 : decode code 452 = .ok (.ireturn, 1) := by decide +kernel
theorem d_L_law_453 : decode code 453 = .ok (.aload_n 1, 1) := by decide +kernel
theorem d_L_law_454 : decode code 454 = .ok (.aload_n 0, 1) := by decide +kernel
theorem d_L_law_455 : decode code 455 = .ok (.iload_n 3, 1) := by decide +kernel
theorem d_L_law_456 : decode code 456 = .ok (.iconst 1, 1) := by decide +kernel
theorem d_L_law_457 : decode code 457 = .ok (.iadd, 1) := by decide +kernel
theorem d_L_law_458 : decode code 458 = .ok (.iaload, 1) := by decide +kernel
theorem d_L_law_459 : decode code 459 = .ok (.aload_n 0, 1) := by decide +kernel
theorem d_L_law_460 : decode code 460 = .ok (.iload_n 3, 1) := by decide +kernel
theorem d_L_law_461 : decode code 461 = .ok (.iconst 2, 1) := by decide +kernel
theorem d_L_law_462 : decode code 462 = .ok (.iadd, 1) := by decide +kernel
theorem d_L_law_463 : decode code 463 = .ok (.iaload, 1) := by decide +kernel
theorem d_L_law_464 : decode code 464 = .ok (.invokevirtual 37, 3) := by decide +kernel
theorem d_L_law_467 : decode code 467 = .ok (.aload_n 2, 1) := by decide +kernel
theorem d_L_law_468 : decode code 468 = .ok (.aload_n 0, 1) := by decide +kernel
theorem d_L_law_469 : decode code 469 = .ok (.iload_n 3, 1) := by decide +kernel
theorem d_L_law_470 : decode code 470 = .ok (.iconst 1, 1) := by decide +kernel
theorem d_L_law_471 : decode code 471 = .ok (.iadd, 1) := by decide +kernel
theorem d_L_law_472 : decode code 472 = .ok (.iaload, 1) := by decide +kernel
theorem d_L_law_473 : decode code 473 = .ok (.aload_n 0, 1) := by decide +kernel
theorem d_L_law_474 : decode code 474 = .ok (.iload_n 3, 1) := by decide +kernel
theorem d_L_law_475 : decode code 475 = .ok (.iconst 2, 1) := by decide +kernel
theorem d_L_law_476 : decode code 476 = .ok (.iadd, 1) := by decide +kernel
theorem d_L_law_477 : decode code 477 = .ok (.iaload, 1) := by decide +kernel
theorem d_L_law_478 : decode code 478 = .ok (.invokevirtual 40, 3) := by decide +kernel
theorem d_L_law_481 : decode code 481 = .ok (.if_icmp .eq 1232, 3) := by decide +kernel
theorem d_L_law_484 : decode code 484 = .ok (.iconst 0, 1) := by decide +kernel
theorem d_L_law_485 : decode code 485 = .ok (.ireturn, 1) := by decide +kernel
theorem d_L_law_486 : decode code 486 = .ok (.aload_n 1, 1) := by decide +kernel
theorem d_L_law_487 : decode code 487 = .ok (.aload_n 0, 1) := by decide +kernel
theorem d_L_law_488 : decode code 488 = .ok (.iload_n 3, 1) := by decide +kernel
theorem d_L_law_489 : decode code 489 = .ok (.iconst 1, 1) := by decide +kernel
theorem d_L_law_490 : decode code 490 = .ok (.iadd, 1) := by decide +kernel
theorem d_L_law_491 : decode code 491 = .ok (.iaload, 1) := by decide +kernel
theorem d_L_law_492 : decode code 492 = .ok (.i2l, 1) := by decide +kernel
theorem d_L_law_493 : decode code 493 = .ok (.bipush 32, 2) := by decide +kernel
theorem d_L_law_495 : decode code 495 = .ok (.lshl, 1) := by decide +kernel
theorem d_L_law_496 : decode code 496 = .ok (.aload_n 0, 1) := by decide +kernel
theorem d_L_law_497 : decode code 497 = .ok (.iload_n 3, 1) := by decide +kernel
theorem d_L_law_498 : decode code 498 = .ok (.iconst 2, 1) := by decide +kernel
theorem d_L_law_499 : decode code 499 = .ok (.iadd, 1) := by decide +kernel
theorem d_L_law_500 : decode code 500 = .ok (.iaload, 1) := by decide +kernel
theorem d_L_law_501 : decode code 501 = .ok (.i2l, 1) := by decide +kernel
theorem d_L_law_502 : decode code 502 = .ok (.ldc2_w 41, 3) := by decide +kernel
theorem d_L_law_505 : decode code 505 = .ok (.land, 1) := by decide +kernel
theorem d_L_law_506 : decode code 506 = .ok (.lor, 1) := by decide +kernel
theorem d_L_law_507 : decode code 507 = .ok (.aload_n 0, 1) := by decide +kernel
theorem d_L_law_508 : decode code 508 = .ok (.iload_n 3, 1) := by decide +kernel
theorem d_L_law_509 : decode code 509 = .ok (.iconst 3, 1) := by decide +kernel
theorem d_L_law_510 : decode code 510 = .ok (.iadd, 1) := by decide +kernel
theorem d_L_law_511 : decode code 511 = .ok (.iaload, 1) := by decide +kernel
theorem d_L_law_512 : decode code 512 = .ok (.invokevirtual 43, 3) := by decide +kernel
theorem d_L_law_515 : decode code 515 = .ok (.aload_n 2, 1) := by decide +kernel
theorem d_L_law_516 : decode code 516 = .ok (.aload_n 0, 1) := by decide +kernel
theorem d_L_law_517 : decode code 517 = .ok (.iload_n 3, 1) := by decide +kernel
theorem d_L_law_518 : decode code 518 = .ok (.iconst 1, 1) := by decide +kernel
theorem d_L_law_519 : decode code 519 = .ok (.iadd, 1) := by decide +kernel
theorem d_L_law_520 : decode code 520 = .ok (.iaload, 1) := by decide +kernel
theorem d_L_law_521 : decode code 521 = .ok (.i2l, 1) := by decide +kernel
theorem d_L_law_522 : decode code 522 = .ok (.bipush 32, 2) := by decide +kernel
theorem d_L_law_524 : decode code 524 = .ok (.lshl, 1) := by decide +kernel
theorem d_L_law_525 : decode code 525 = .ok (.aload_n 0, 1) := by decide +kernel
theorem d_L_law_526 : decode code 526 = .ok (.iload_n 3, 1) := by decide +kernel
theorem d_L_law_527 : decode code 527 = .ok (.iconst 2, 1) := by decide +kernel
theorem d_L_law_528 : decode code 528 = .ok (.iadd, 1) := by decide +kernel
theorem d_L_law_529 : decode code 529 = .ok (.iaload, 1) := by decide +kernel
theorem d_L_law_530 : decode code 530 = .ok (.i2l, 1) := by decide +kernel
theorem d_L_law_531 : decode code 531 = .ok (.ldc2_w 41, 3) := by decide +kernel
theorem d_L_law_534 : decode code 534 = .ok (.land, 1) := by decide +kernel
theorem d_L_law_535 : decode code 535 = .ok (.lor, 1) := by decide +kernel
theorem d_L_law_536 : decode code 536 = .ok (.aload_n 0, 1) := by decide +kernel
theorem d_L_law_537 : decode code 537 = .ok (.iload_n 3, 1) := by decide +kernel
theorem d_L_law_538 : decode code 538 = .ok (.iconst 3, 1) := by decide +kernel
theorem d_L_law_539 : decode code 539 = .ok (.iadd, 1) := by decide +kernel
theorem d_L_law_540 : decode code 540 = .ok (.iaload, 1) := by decide +kernel
theorem d_L_law_541 : decode code 541 = .ok (.invokevirtual 47, 3) := by decide +kernel
theorem d_L_law_544 : decode code 544 = .ok (.if_icmp .eq 1169, 3) := by decide +kernel
theorem d_L_law_547 : decode code 547 = .ok (.iconst 0, 1) := by decide +kernel
theorem d_L_law_548 : decode code 548 = .ok (.ireturn, 1) := by decide +kernel
theorem d_L_law_549 : decode code 549 = .ok (.aload_n 1, 1) := by decide +kernel
theorem d_L_law_550 : decode code 550 = .ok (.invokevirtual 48, 3) := by decide +kernel
theorem d_L_law_553 : decode code 553 = .ok (.aload_n 2, 1) := by decide +kernel
theorem d_L_law_554 : decode code 554 = .ok (.invokevirtual 52, 3) := by decide +kernel
theorem d_L_law_557 : decode code 557 = .ok (.if_icmp .eq 1156, 3) := by decide +kernel
theorem d_L_law_560 : decode code 560 = .ok (.iconst 0, 1) := by decide +kernel
theorem d_L_law_561 : decode code 561 = .ok (.ireturn, 1) := by decide +kernel
theorem d_L_law_562 : decode code 562 = .ok (.aload_n 1, 1) := by decide +kernel
theorem d_L_law_563 : decode code 563 = .ok (.aload_n 0, 1) := by decide +kernel
theorem d_L_law_564 : decode code 564 = .ok (.iload_n 3, 1) := by decide +kernel
theorem d_L_law_565 : decode code 565 = .ok (.iconst 1, 1) := by decide +kernel
theorem d_L_law_566 : decode code 566 = .ok (.iadd, 1) := by decide +kernel
theorem d_L_law_567 : decode code 567 = .ok (.iaload, 1) := by decide +kernel
theorem d_L_law_568 : decode code 568 = .ok (.invokevirtual 53, 3) := by decide +kernel
theorem d_L_law_571 : decode code 571 = .ok (.aload_n 2, 1) := by decide +kernel
theorem d_L_law_572 : decode code 572 = .ok (.aload_n 0, 1) := by decide +kernel
theorem d_L_law_573 : decode code 573 = .ok (.iload_n 3, 1) := by decide +kernel
theorem d_L_law_574 : decode code 574 = .ok (.iconst 1, 1) := by decide +kernel
theorem d_L_law_575 : decode code 575 = .ok (.iadd, 1) := by decide +kernel
theorem d_L_law_576 : decode code 576 = .ok (.iaload, 1) := by decide +kernel
theorem d_L_law_577 : decode code 577 = .ok (.invokevirtual 56, 3) := by decide +kernel
theorem d_L_law_580 : decode code 580 = .ok (.if_icmp .eq 1133, 3) := by decide +kernel
theorem d_L_law_583 : decode code 583 = .ok (.iconst 0, 1) := by decide +kernel
theorem d_L_law_584 : decode code 584 = .ok (.ireturn, 1) := by decide +kernel
theorem d_L_law_585 : decode code 585 = .ok (.aload_n 1, 1) := by decide +kernel
theorem d_L_law_586 : decode code 586 = .ok (.invokevirtual 57, 3) := by decide +kernel
theorem d_L_law_589 : decode code 589 = .ok (.aload_n 2, 1) := by decide +kernel
theorem d_L_law_590 : decode code 590 = .ok (.invokevirtual 60, 3) := by decide +kernel
theorem d_L_law_593 : decode code 593 = .ok (.if_icmp .eq 1120, 3) := by decide +kernel
theorem d_L_law_596 : decode code 596 = .ok (.iconst 0, 1) := by decide +kernel
theorem d_L_law_597 : decode code 597 = .ok (.ireturn, 1) := by decide +kernel
theorem d_L_law_598 : decode code 598 = .ok (.aload_n 1, 1) := by decide +kernel
theorem d_L_law_599 : decode code 599 = .ok (.invokevirtual 61, 3) := by decide +kernel
theorem d_L_law_602 : decode code 602 = .ok (.aload_n 2, 1) := by decide +kernel
theorem d_L_law_603 : decode code 603 = .ok (.invokevirtual 64, 3) := by decide +kernel
theorem d_L_law_606 : decode code 606 = .ok (.if_icmp .eq 1107, 3) := by decide +kernel
theorem d_L_law_609 : decode code 609 = .ok (.iconst 0, 1) := by decide +kernel
theorem d_L_law_610 : decode code 610 = .ok (.ireturn, 1) := by decide +kernel
theorem d_L_law_611 : decode code 611 = .ok (.aload_n 1, 1) := by decide +kernel
theorem d_L_law_612 : decode code 612 = .ok (.invokevirtual 65, 3) := by decide +kernel
theorem d_L_law_615 : decode code 615 = .ok (.aload_n 2, 1) := by decide +kernel
theorem d_L_law_616 : decode code 616 = .ok (.invokevirtual 68, 3) := by decide +kernel
theorem d_L_law_619 : decode code 619 = .ok (.if_icmp .eq 1094, 3) := by decide +kernel
theorem d_L_law_622 : decode code 622 = .ok (.iconst 0, 1) := by decide +kernel
theorem d_L_law_623 : decode code 623 = .ok (.ireturn, 1) := by decide +kernel
theorem d_L_law_624 : decode code 624 = .ok (.aload_n 1, 1) := by decide +kernel
theorem d_L_law_625 : decode code 625 = .ok (.invokevirtual 69, 3) := by decide +kernel
theorem d_L_law_628 : decode code 628 = .ok (.aload_n 2, 1) := by decide +kernel
theorem d_L_law_629 : decode code 629 = .ok (.invokevirtual 72, 3) := by decide +kernel
theorem d_L_law_632 : decode code 632 = .ok (.if_icmp .eq 1081, 3) := by decide +kernel
theorem d_L_law_635 : decode code 635 = .ok (.iconst 0, 1) := by decide +kernel
theorem d_L_law_636 : decode code 636 = .ok (.ireturn, 1) := by decide +kernel
theorem d_L_law_637 : decode code 637 = .ok (.aload_n 1, 1) := by decide +kernel
theorem d_L_law_638 : decode code 638 = .ok (.aload_n 0, 1) := by decide +kernel
theorem d_L_law_639 : decode code 639 = .ok (.iload_n 3, 1) := by decide +kernel
theorem d_L_law_640 : decode code 640 = .ok (.iconst 1, 1) := by decide +kernel
theorem d_L_law_641 : decode code 641 = .ok (.iadd, 1) := by decide +kernel
theorem d_L_law_642 : decode code 642 = .ok (.iaload, 1) := by decide +kernel
theorem d_L_law_643 : decode code 643 = .ok (.aload_n 0, 1) := by decide +kernel
theorem d_L_law_644 : decode code 644 = .ok (.iload_n 3, 1) := by decide +kernel
theorem d_L_law_645 : decode code 645 = .ok (.iconst 2, 1) := by decide +kernel
theorem d_L_law_646 : decode code 646 = .ok (.iadd, 1) := by decide +kernel
theorem d_L_law_647 : decode code 647 = .ok (.iaload, 1) := by decide +kernel
theorem d_L_law_648 : decode code 648 = .ok (.invokevirtual 73, 3) := by decide +kernel
theorem d_L_law_651 : decode code 651 = .ok (.aload_n 2, 1) := by decide +kernel
theorem d_L_law_652 : decode code 652 = .ok (.aload_n 0, 1) := by decide +kernel
theorem d_L_law_653 : decode code 653 = .ok (.iload_n 3, 1) := by decide +kernel
theorem d_L_law_654 : decode code 654 = .ok (.iconst 1, 1) := by decide +kernel
theorem d_L_law_655 : decode code 655 = .ok (.iadd, 1) := by decide +kernel
theorem d_L_law_656 : decode code 656 = .ok (.iaload, 1) := by decide +kernel
theorem d_L_law_657 : decode code 657 = .ok (.aload_n 0, 1) := by decide +kernel
theorem d_L_law_658 : decode code 658 = .ok (.iload_n 3, 1) := by decide +kernel
theorem d_L_law_659 : decode code 659 = .ok (.iconst 2, 1) := by decide +kernel
theorem d_L_law_660 : decode code 660 = .ok (.iadd, 1) := by decide +kernel
theorem d_L_law_661 : decode code 661 = .ok (.iaload, 1) := by decide +kernel
theorem d_L_law_662 : decode code 662 = .ok (.invokevirtual 76, 3) := by decide +kernel
theorem d_L_law_665 : decode code 665 = .ok (.if_icmp .eq 1048, 3) := by decide +kernel
theorem d_L_law_668 : decode code 668 = .ok (.iconst 0, 1) := by decide +kernel
theorem d_L_law_669 : decode code 669 = .ok (.ireturn, 1) := by decide +kernel
theorem d_L_law_670 : decode code 670 = .ok (.aload_n 1, 1) := by decide +kernel
theorem d_L_law_671 : decode code 671 = .ok (.aload_n 0, 1) := by decide +kernel
theorem d_L_law_672 : decode code 672 = .ok (.iload_n 3, 1) := by decide +kernel
theorem d_L_law_673 : decode code 673 = .ok (.iconst 1, 1) := by decide +kernel
theorem d_L_law_674 : decode code 674 = .ok (.iadd, 1) := by decide +kernel
theorem d_L_law_675 : decode code 675 = .ok (.iaload, 1) := by decide +kernel
theorem d_L_law_676 : decode code 676 = .ok (.invokevirtual 77, 3) := by decide +kernel
theorem d_L_law_679 : decode code 679 = .ok (.aload_n 2, 1) := by decide +kernel
theorem d_L_law_680 : decode code 680 = .ok (.aload_n 0, 1) := by decide +kernel
theorem d_L_law_681 : decode code 681 = .ok (.iload_n 3, 1) := by decide +kernel
theorem d_L_law_682 : decode code 682 = .ok (.iconst 1, 1) := by decide +kernel
theorem d_L_law_683 : decode code 683 = .ok (.iadd, 1) := by decide +kernel
theorem d_L_law_684 : decode code 684 = .ok (.iaload, 1) := by decide +kernel
theorem d_L_law_685 : decode code 685 = .ok (.invokevirtual 80, 3) := by decide +kernel
theorem d_L_law_688 : decode code 688 = .ok (.if_icmp .eq 1025, 3) := by decide +kernel
theorem d_L_law_691 : decode code 691 = .ok (.iconst 0, 1) := by decide +kernel
theorem d_L_law_692 : decode code 692 = .ok (.ireturn, 1) := by decide +kernel
theorem d_L_law_693 : decode code 693 = .ok (.aload_n 1, 1) := by decide +kernel
theorem d_L_law_694 : decode code 694 = .ok (.aload_n 0, 1) := by decide +kernel
theorem d_L_law_695 : decode code 695 = .ok (.iload_n 3, 1) := by decide +kernel
theorem d_L_law_696 : decode code 696 = .ok (.iconst 1, 1) := by decide +kernel
theorem d_L_law_697 : decode code 697 = .ok (.iadd, 1) := by decide +kernel
theorem d_L_law_698 : decode code 698 = .ok (.iaload, 1) := by decide +kernel
theorem d_L_law_699 : decode code 699 = .ok (.aload_n 0, 1) := by decide +kernel
theorem d_L_law_700 : decode code 700 = .ok (.iload_n 3, 1) := by decide +kernel
theorem d_L_law_701 : decode code 701 = .ok (.iconst 2, 1) := by decide +kernel
theorem d_L_law_702 : decode code 702 = .ok (.iadd, 1) := by decide +kernel
theorem d_L_law_703 : decode code 703 = .ok (.iaload, 1) := by decide +kernel
theorem d_L_law_704 : decode code 704 = .ok (.invokevirtual 81, 3) := by decide +kernel
theorem d_L_law_707 : decode code 707 = .ok (.aload_n 2, 1) := by decide +kernel
theorem d_L_law_708 : decode code 708 = .ok (.aload_n 0, 1) := by decide +kernel
theorem d_L_law_709 : decode code 709 = .ok (.iload_n 3, 1) := by decide +kernel
theorem d_L_law_710 : decode code 710 = .ok (.iconst 1, 1) := by decide +kernel
theorem d_L_law_711 : decode code 711 = .ok (.iadd, 1) := by decide +kernel
theorem d_L_law_712 : decode code 712 = .ok (.iaload, 1) := by decide +kernel
theorem d_L_law_713 : decode code 713 = .ok (.aload_n 0, 1) := by decide +kernel
theorem d_L_law_714 : decode code 714 = .ok (.iload_n 3, 1) := by decide +kernel
theorem d_L_law_715 : decode code 715 = .ok (.iconst 2, 1) := by decide +kernel
theorem d_L_law_716 : decode code 716 = .ok (.iadd, 1) := by decide +kernel
theorem d_L_law_717 : decode code 717 = .ok (.iaload, 1) := by decide +kernel
theorem d_L_law_718 : decode code 718 = .ok (.invokevirtual 84, 3) := by decide +kernel
theorem d_L_law_721 : decode code 721 = .ok (.if_icmp .eq 992, 3) := by decide +kernel
theorem d_L_law_724 : decode code 724 = .ok (.iconst 0, 1) := by decide +kernel
theorem d_L_law_725 : decode code 725 = .ok (.ireturn, 1) := by decide +kernel
theorem d_L_law_726 : decode code 726 = .ok (.aload_n 1, 1) := by decide +kernel
theorem d_L_law_727 : decode code 727 = .ok (.aload_n 0, 1) := by decide +kernel
theorem d_L_law_728 : decode code 728 = .ok (.iload_n 3, 1) := by decide +kernel
theorem d_L_law_729 : decode code 729 = .ok (.iconst 1, 1) := by decide +kernel
theorem d_L_law_730 : decode code 730 = .ok (.iadd, 1) := by decide +kernel
theorem d_L_law_731 : decode code 731 = .ok (.iaload, 1) := by decide +kernel
theorem d_L_law_732 : decode code 732 = .ok (.aload_n 0, 1) := by decide +kernel
theorem d_L_law_733 : decode code 733 = .ok (.iload_n 3, 1) := by decide +kernel
theorem d_L_law_734 : decode code 734 = .ok (.iconst 2, 1) := by decide +kernel
theorem d_L_law_735 : decode code 735 = .ok (.iadd, 1) := by decide +kernel
theorem d_L_law_736 : decode code 736 = .ok (.iaload, 1) := by decide +kernel
theorem d_L_law_737 : decode code 737 = .ok (.invokevirtual 85, 3) := by decide +kernel
theorem d_L_law_740 : decode code 740 = .ok (.aload_n 2, 1) := by decide +kernel
theorem d_L_law_741 : decode code 741 = .ok (.aload_n 0, 1) := by decide +kernel
theorem d_L_law_742 : decode code 742 = .ok (.iload_n 3, 1) := by decide +kernel
theorem d_L_law_743 : decode code 743 = .ok (.iconst 1, 1) := by decide +kernel
theorem d_L_law_744 : decode code 744 = .ok (.iadd, 1) := by decide +kernel
theorem d_L_law_745 : decode code 745 = .ok (.iaload, 1) := by decide +kernel
theorem d_L_law_746 : decode code 746 = .ok (.aload_n 0, 1) := by decide +kernel
theorem d_L_law_747 : decode code 747 = .ok (.iload_n 3, 1) := by decide +kernel
theorem d_L_law_748 : decode code 748 = .ok (.iconst 2, 1) := by decide +kernel
theorem d_L_law_749 : decode code 749 = .ok (.iadd, 1) := by decide +kernel
theorem d_L_law_750 : decode code 750 = .ok (.iaload, 1) := by decide +kernel
theorem d_L_law_751 : decode code 751 = .ok (.invokevirtual 88, 3) := by decide +kernel
theorem d_L_law_754 : decode code 754 = .ok (.if_icmp .eq 959, 3) := by decide +kernel
theorem d_L_law_757 : decode code 757 = .ok (.iconst 0, 1) := by decide +kernel
theorem d_L_law_758 : decode code 758 = .ok (.ireturn, 1) := by decide +kernel
theorem d_L_law_759 : decode code 759 = .ok (.aload_n 1, 1) := by decide +kernel
theorem d_L_law_760 : decode code 760 = .ok (.aload_n 0, 1) := by decide +kernel
theorem d_L_law_761 : decode code 761 = .ok (.iload_n 3, 1) := by decide +kernel
theorem d_L_law_762 : decode code 762 = .ok (.iconst 1, 1) := by decide +kernel
theorem d_L_law_763 : decode code 763 = .ok (.iadd, 1) := by decide +kernel
theorem d_L_law_764 : decode code 764 = .ok (.iaload, 1) := by decide +kernel
theorem d_L_law_765 : decode code 765 = .ok (.aload_n 0, 1) := by decide +kernel
theorem d_L_law_766 : decode code 766 = .ok (.iload_n 3, 1) := by decide +kernel
theorem d_L_law_767 : decode code 767 = .ok (.iconst 2, 1) := by decide +kernel
theorem d_L_law_768 : decode code 768 = .ok (.iadd, 1) := by decide +kernel
theorem d_L_law_769 : decode code 769 = .ok (.iaload, 1) := by decide +kernel
theorem d_L_law_770 : decode code 770 = .ok (.invokevirtual 89, 3) := by decide +kernel
theorem d_L_law_773 : decode code 773 = .ok (.aload_n 2, 1) := by decide +kernel
theorem d_L_law_774 : decode code 774 = .ok (.aload_n 0, 1) := by decide +kernel
theorem d_L_law_775 : decode code 775 = .ok (.iload_n 3, 1) := by decide +kernel
theorem d_L_law_776 : decode code 776 = .ok (.iconst 1, 1) := by decide +kernel
theorem d_L_law_777 : decode code 777 = .ok (.iadd, 1) := by decide +kernel
theorem d_L_law_778 : decode code 778 = .ok (.iaload, 1) := by decide +kernel
theorem d_L_law_779 : decode code 779 = .ok (.aload_n 0, 1) := by decide +kernel
theorem d_L_law_780 : decode code 780 = .ok (.iload_n 3, 1) := by decide +kernel
theorem d_L_law_781 : decode code 781 = .ok (.iconst 2, 1) := by decide +kernel
theorem d_L_law_782 : decode code 782 = .ok (.iadd, 1) := by decide +kernel
theorem d_L_law_783 : decode code 783 = .ok (.iaload, 1) := by decide +kernel
theorem d_L_law_784 : decode code 784 = .ok (.invokevirtual 92, 3) := by decide +kernel
theorem d_L_law_787 : decode code 787 = .ok (.if_icmp .eq 926, 3) := by decide +kernel
theorem d_L_law_790 : decode code 790 = .ok (.iconst 0, 1) := by decide +kernel
theorem d_L_law_791 : decode code 791 = .ok (.ireturn, 1) := by decide +kernel
theorem d_L_law_792 : decode code 792 = .ok (.aload_n 1, 1) := by decide +kernel
theorem d_L_law_793 : decode code 793 = .ok (.invokevirtual 93, 3) := by decide +kernel
theorem d_L_law_796 : decode code 796 = .ok (.aload_n 2, 1) := by decide +kernel
theorem d_L_law_797 : decode code 797 = .ok (.invokevirtual 96, 3) := by decide +kernel
theorem d_L_law_800 : decode code 800 = .ok (.if_icmp .eq 913, 3) := by decide +kernel
theorem d_L_law_803 : decode code 803 = .ok (.iconst 0, 1) := by decide +kernel
theorem d_L_law_804 : decode code 804 = .ok (.ireturn, 1) := by decide +kernel
theorem d_L_law_805 : decode code 805 = .ok (.aload_n 1, 1) := by decide +kernel
theorem d_L_law_806 : decode code 806 = .ok (.invokevirtual 97, 3) := by decide +kernel
theorem d_L_law_809 : decode code 809 = .ok (.aload_n 2, 1) := by decide +kernel
theorem d_L_law_810 : decode code 810 = .ok (.invokevirtual 100, 3) := by decide +kernel
theorem d_L_law_813 : decode code 813 = .ok (.if_icmp .eq 900, 3) := by decide +kernel
theorem d_L_law_816 : decode code 816 = .ok (.iconst 0, 1) := by decide +kernel
theorem d_L_law_817 : decode code 817 = .ok (.ireturn, 1) := by decide +kernel
theorem d_L_law_818 : decode code 818 = .ok (.aload_n 1, 1) := by decide +kernel
theorem d_L_law_819 : decode code 819 = .ok (.invokevirtual 101, 3) := by decide +kernel
theorem d_L_law_822 : decode code 822 = .ok (.aload_n 2, 1) := by decide +kernel
theorem d_L_law_823 : decode code 823 = .ok (.invokevirtual 104, 3) := by decide +kernel
theorem d_L_law_826 : decode code 826 = .ok (.if_icmp .eq 887, 3) := by decide +kernel
theorem d_L_law_829 : decode code 829 = .ok (.iconst 0, 1) := by decide +kernel
theorem d_L_law_830 : decode code 830 = .ok (.ireturn, 1) := by decide +kernel
theorem d_L_law_831 : decode code 831 = .ok (.aload_n 1, 1) := by decide +kernel
theorem d_L_law_832 : decode code 832 = .ok (.invokevirtual 105, 3) := by decide +kernel
theorem d_L_law_835 : decode code 835 = .ok (.aload_n 2, 1) := by decide +kernel
theorem d_L_law_836 : decode code 836 = .ok (.invokevirtual 108, 3) := by decide +kernel
theorem d_L_law_839 : decode code 839 = .ok (.if_icmp .eq 874, 3) := by decide +kernel
theorem d_L_law_842 : decode code 842 = .ok (.iconst 0, 1) := by decide +kernel
theorem d_L_law_843 : decode code 843 = .ok (.ireturn, 1) := by decide +kernel
theorem d_L_law_844 : decode code 844 = .ok (.aload_n 1, 1) := by decide +kernel
theorem d_L_law_845 : decode code 845 = .ok (.invokevirtual 109, 3) := by decide +kernel
theorem d_L_law_848 : decode code 848 = .ok (.aload_n 2, 1) := by decide +kernel
theorem d_L_law_849 : decode code 849 = .ok (.invokevirtual 112, 3) := by decide +kernel
theorem d_L_law_852 : decode code 852 = .ok (.if_icmp .eq 861, 3) := by decide +kernel
theorem d_L_law_855 : decode code 855 = .ok (.iconst 0, 1) := by decide +kernel
theorem d_L_law_856 : decode code 856 = .ok (.ireturn, 1) := by decide +kernel
theorem d_L_law_857 : decode code 857 = .ok (.aload_n 1, 1) := by decide +kernel
theorem d_L_law_858 : decode code 858 = .ok (.aload_n 0, 1) := by decide +kernel
theorem d_L_law_859 : decode code 859 = .ok (.iload_n 3, 1) := by decide +kernel
theorem d_L_law_860 : decode code 860 = .ok (.iconst 1, 1) := by decide +kernel
theorem d_L_law_861 : decode code 861 = .ok (.iadd, 1) := by decide +kernel
theorem d_L_law_862 : decode code 862 = .ok (.iaload, 1) := by decide +kernel
theorem d_L_law_863 : decode code 863 = .ok (.invokevirtual 113, 3) := by decide +kernel
theorem d_L_law_866 : decode code 866 = .ok (.aload_n 2, 1) := by decide +kernel
theorem d_L_law_867 : decode code 867 = .ok (.aload_n 0, 1) := by decide +kernel
theorem d_L_law_868 : decode code 868 = .ok (.iload_n 3, 1) := by decide +kernel
theorem d_L_law_869 : decode code 869 = .ok (.iconst 1, 1) := by decide +kernel
theorem d_L_law_870 : decode code 870 = .ok (.iadd, 1) := by decide +kernel
theorem d_L_law_871 : decode code 871 = .ok (.iaload, 1) := by decide +kernel
theorem d_L_law_872 : decode code 872 = .ok (.invokevirtual 116, 3) := by decide +kernel
theorem d_L_law_875 : decode code 875 = .ok (.if_icmp .eq 838, 3) := by decide +kernel
theorem d_L_law_878 : decode code 878 = .ok (.iconst 0, 1) := by decide +kernel
theorem d_L_law_879 : decode code 879 = .ok (.ireturn, 1) := by decide +kernel
theorem d_L_law_880 : decode code 880 = .ok (.aload_n 1, 1) := by decide +kernel
theorem d_L_law_881 : decode code 881 = .ok (.aload_n 0, 1) := by decide +kernel
theorem d_L_law_882 : decode code 882 = .ok (.iload_n 3, 1) := by decide +kernel
theorem d_L_law_883 : decode code 883 = .ok (.iconst 1, 1) := by decide +kernel
theorem d_L_law_884 : decode code 884 = .ok (.iadd, 1) := by decide +kernel
theorem d_L_law_885 : decode code 885 = .ok (.iaload, 1) := by decide +kernel
theorem d_L_law_886 : decode code 886 = .ok (.aload_n 0, 1) := by decide +kernel
theorem d_L_law_887 : decode code 887 = .ok (.iload_n 3, 1) := by decide +kernel
theorem d_L_law_888 : decode code 888 = .ok (.iconst 2, 1) := by decide +kernel
theorem d_L_law_889 : decode code 889 = .ok (.iadd, 1) := by decide +kernel
theorem d_L_law_890 : decode code 890 = .ok (.iaload, 1) := by decide +kernel
theorem d_L_law_891 : decode code 891 = .ok (.invokevirtual 117, 3) := by decide +kernel
theorem d_L_law_894 : decode code 894 = .ok (.aload_n 2, 1) := by decide +kernel
theorem d_L_law_895 : decode code 895 = .ok (.aload_n 0, 1) := by decide +kernel
theorem d_L_law_896 : decode code 896 = .ok (.iload_n 3, 1) := by decide +kernel
theorem d_L_law_897 : decode code 897 = .ok (.iconst 1, 1) := by decide +kernel
theorem d_L_law_898 : decode code 898 = .ok (.iadd, 1) := by decide +kernel
theorem d_L_law_899 : decode code 899 = .ok (.iaload, 1) := by decide +kernel
theorem d_L_law_900 : decode code 900 = .ok (.aload_n 0, 1) := by decide +kernel
theorem d_L_law_901 : decode code 901 = .ok (.iload_n 3, 1) := by decide +kernel
theorem d_L_law_902 : decode code 902 = .ok (.iconst 2, 1) := by decide +kernel
theorem d_L_law_903 : decode code 903 = .ok (.iadd, 1) := by decide +kernel
theorem d_L_law_904 : decode code 904 = .ok (.iaload, 1) := by decide +kernel
theorem d_L_law_905 : decode code 905 = .ok (.invokevirtual 120, 3) := by decide +kernel
theorem d_L_law_908 : decode code 908 = .ok (.if_icmp .eq 805, 3) := by decide +kernel
theorem d_L_law_911 : decode code 911 = .ok (.iconst 0, 1) := by decide +kernel
theorem d_L_law_912 : decode code 912 = .ok (.ireturn, 1) := by decide +kernel
theorem d_L_law_913 : decode code 913 = .ok (.aload_n 1, 1) := by decide +kernel
theorem d_L_law_914 : decode code 914 = .ok (.aload_n 0, 1) := by decide +kernel
theorem d_L_law_915 : decode code 915 = .ok (.iload_n 3, 1) := by decide +kernel
theorem d_L_law_916 : decode code 916 = .ok (.iconst 1, 1) := by decide +kernel
theorem d_L_law_917 : decode code 917 = .ok (.iadd, 1) := by decide +kernel
theorem d_L_law_918 : decode code 918 = .ok (.iaload, 1) := by decide +kernel
theorem d_L_law_919 : decode code 919 = .ok (.invokevirtual 121, 3) := by decide +kernel
theorem d_L_law_922 : decode code 922 = .ok (.aload_n 2, 1) := by decide +kernel
theorem d_L_law_923 : decode code 923 = .ok (.aload_n 0, 1) := by decide +kernel
theorem d_L_law_924 : decode code 924 = .ok (.iload_n 3, 1) := by decide +kernel
theorem d_L_law_925 : decode code 925 = .ok (.iconst 1, 1) := by decide +kernel
theorem d_L_law_926 : decode code 926 = .ok (.iadd, 1) := by decide +kernel
theorem d_L_law_927 : decode code 927 = .ok (.iaload, 1) := by decide +kernel
theorem d_L_law_928 : decode code 928 = .ok (.invokevirtual 124, 3) := by decide +kernel
theorem d_L_law_931 : decode code 931 = .ok (.if_icmp .eq 782, 3) := by decide +kernel
theorem d_L_law_934 : decode code 934 = .ok (.iconst 0, 1) := by decide +kernel
theorem d_L_law_935 : decode code 935 = .ok (.ireturn, 1) := by decide +kernel
theorem d_L_law_936 : decode code 936 = .ok (.aload_n 1, 1) := by decide +kernel
theorem d_L_law_937 : decode code 937 = .ok (.invokevirtual 125, 3) := by decide +kernel
theorem d_L_law_940 : decode code 940 = .ok (.aload_n 2, 1) := by decide +kernel
theorem d_L_law_941 : decode code 941 = .ok (.invokevirtual 128, 3) := by decide +kernel
theorem d_L_law_944 : decode code 944 = .ok (.if_icmp .eq 769, 3) := by decide +kernel
theorem d_L_law_947 : decode code 947 = .ok (.iconst 0, 1) := by decide +kernel
theorem d_L_law_948 : decode code 948 = .ok (.ireturn, 1) := by decide +kernel
theorem d_L_law_949 : decode code 949 = .ok (.aload_n 1, 1) := by decide +kernel
theorem d_L_law_950 : decode code 950 = .ok (.aload_n 0, 1) := by decide +kernel
theorem d_L_law_951 : decode code 951 = .ok (.iload_n 3, 1) := by decide +kernel
theorem d_L_law_952 : decode code 952 = .ok (.iconst 1, 1) := by decide +kernel
theorem d_L_law_953 : decode code 953 = .ok (.iadd, 1) := by decide +kernel
theorem d_L_law_954 : decode code 954 = .ok (.iaload, 1) := by decide +kernel
theorem d_L_law_955 : decode code 955 = .ok (.invokevirtual 129, 3) := by decide +kernel
theorem d_L_law_958 : decode code 958 = .ok (.aload_n 2, 1) := by decide +kernel
theorem d_L_law_959 : decode code 959 = .ok (.aload_n 0, 1) := by decide +kernel
theorem d_L_law_960 : decode code 960 = .ok (.iload_n 3, 1) := by decide +kernel
theorem d_L_law_961 : decode code 961 = .ok (.iconst 1, 1) := by decide +kernel
theorem d_L_law_962 : decode code 962 = .ok (.iadd, 1) := by decide +kernel
theorem d_L_law_963 : decode code 963 = .ok (.iaload, 1) := by decide +kernel
theorem d_L_law_964 : decode code 964 = .ok (.invokevirtual 132, 3) := by decide +kernel
theorem d_L_law_967 : decode code 967 = .ok (.if_icmp .eq 746, 3) := by decide +kernel
theorem d_L_law_970 : decode code 970 = .ok (.iconst 0, 1) := by decide +kernel
theorem d_L_law_971 : decode code 971 = .ok (.ireturn, 1) := by decide +kernel
theorem d_L_law_972 : decode code 972 = .ok (.aload_n 1, 1) := by decide +kernel
theorem d_L_law_973 : decode code 973 = .ok (.invokevirtual 133, 3) := by decide +kernel
theorem d_L_law_976 : decode code 976 = .ok (.aload_n 2, 1) := by decide +kernel
theorem d_L_law_977 : decode code 977 = .ok (.invokevirtual 136, 3) := by decide +kernel
theorem d_L_law_980 : decode code 980 = .ok (.if_icmp .eq 733, 3) := by decide +kernel
theorem d_L_law_983 : decode code 983 = .ok (.iconst 0, 1) := by decide +kernel
theorem d_L_law_984 : decode code 984 = .ok (.ireturn, 1) := by decide +kernel
theorem d_L_law_985 : decode code 985 = .ok (.aload_n 1, 1) := by decide +kernel
theorem d_L_law_986 : decode code 986 = .ok (.aload_n 0, 1) := by decide +kernel
theorem d_L_law_987 : decode code 987 = .ok (.iload_n 3, 1) := by decide +kernel
theorem d_L_law_988 : decode code 988 = .ok (.iconst 1, 1) := by decide +kernel
theorem d_L_law_989 : decode code 989 = .ok (.iadd, 1) := by decide +kernel
theorem d_L_law_990 : decode code 990 = .ok (.iaload, 1) := by decide +kernel
theorem d_L_law_991 : decode code 991 = .ok (.invokevirtual 137, 3) := by decide +kernel
theorem d_L_law_994 : decode code 994 = .ok (.aload_n 2, 1) := by decide +kernel
theorem d_L_law_995 : decode code 995 = .ok (.aload_n 0, 1) := by decide +kernel
theorem d_L_law_996 : decode code 996 = .ok (.iload_n 3, 1) := by decide +kernel
theorem d_L_law_997 : decode code 997 = .ok (.iconst 1, 1) := by decide +kernel
theorem d_L_law_998 : decode code 998 = .ok (.iadd, 1) := by decide +kernel
theorem d_L_law_999 : decode code 999 = .ok (.iaload, 1) := by decide +kernel
theorem d_L_law_1000 : decode code 1000 = .ok (.invokevirtual 140, 3) := by decide +kernel
theorem d_L_law_1003 : decode code 1003 = .ok (.if_icmp .eq 710, 3) := by decide +kernel
theorem d_L_law_1006 : decode code 1006 = .ok (.iconst 0, 1) := by decide +kernel
theorem d_L_law_1007 : decode code 1007 = .ok (.ireturn, 1) := by decide +kernel
theorem d_L_law_1008 : decode code 1008 = .ok (.aload_n 1, 1) := by decide +kernel
theorem d_L_law_1009 : decode code 1009 = .ok (.aload_n 0, 1) := by decide +kernel
theorem d_L_law_1010 : decode code 1010 = .ok (.iload_n 3, 1) := by decide +kernel
theorem d_L_law_1011 : decode code 1011 = .ok (.iconst 1, 1) := by decide +kernel
theorem d_L_law_1012 : decode code 1012 = .ok (.iadd, 1) := by decide +kernel
theorem d_L_law_1013 : decode code 1013 = .ok (.iaload, 1) := by decide +kernel
theorem d_L_law_1014 : decode code 1014 = .ok (.invokevirtual 141, 3) := by decide +kernel
theorem d_L_law_1017 : decode code 1017 = .ok (.aload_n 2, 1) := by decide +kernel
theorem d_L_law_1018 : decode code 1018 = .ok (.aload_n 0, 1) := by decide +kernel
theorem d_L_law_1019 : decode code 1019 = .ok (.iload_n 3, 1) := by decide +kernel
theorem d_L_law_1020 : decode code 1020 = .ok (.iconst 1, 1) := by decide +kernel
theorem d_L_law_1021 : decode code 1021 = .ok (.iadd, 1) := by decide +kernel
theorem d_L_law_1022 : decode code 1022 = .ok (.iaload, 1) := by decide +kernel
theorem d_L_law_1023 : decode code 1023 = .ok (.invokevirtual 144, 3) := by decide +kernel
theorem d_L_law_1026 : decode code 1026 = .ok (.if_icmp .eq 687, 3) := by decide +kernel
theorem d_L_law_1029 : decode code 1029 = .ok (.iconst 0, 1) := by decide +kernel
theorem d_L_law_1030 : decode code 1030 = .ok (.ireturn, 1) := by decide +kernel
theorem d_L_law_1031 : decode code 1031 = .ok (.aload_n 1, 1) := by decide +kernel
theorem d_L_law_1032 : decode code 1032 = .ok (.aload_n 0, 1) := by decide +kernel
theorem d_L_law_1033 : decode code 1033 = .ok (.iload_n 3, 1) := by decide +kernel
theorem d_L_law_1034 : decode code 1034 = .ok (.iconst 1, 1) := by decide +kernel
theorem d_L_law_1035 : decode code 1035 = .ok (.iadd, 1) := by decide +kernel
theorem d_L_law_1036 : decode code 1036 = .ok (.iaload, 1) := by decide +kernel
theorem d_L_law_1037 : decode code 1037 = .ok (.invokevirtual 145, 3) := by decide +kernel
theorem d_L_law_1040 : decode code 1040 = .ok (.aload_n 2, 1) := by decide +kernel
theorem d_L_law_1041 : decode code 1041 = .ok (.aload_n 0, 1) := by decide +kernel
theorem d_L_law_1042 : decode code 1042 = .ok (.iload_n 3, 1) := by decide +kernel
theorem d_L_law_1043 : decode code 1043 = .ok (.iconst 1, 1) := by decide +kernel
theorem d_L_law_1044 : decode code 1044 = .ok (.iadd, 1) := by decide +kernel
theorem d_L_law_1045 : decode code 1045 = .ok (.iaload, 1) := by decide +kernel
theorem d_L_law_1046 : decode code 1046 = .ok (.invokevirtual 148, 3) := by decide +kernel
theorem d_L_law_1049 : decode code 1049 = .ok (.if_icmp .eq 664, 3) := by decide +kernel
theorem d_L_law_1052 : decode code 1052 = .ok (.iconst 0, 1) := by decide +kernel
theorem d_L_law_1053 : decode code 1053 = .ok (.ireturn, 1) := by decide +kernel
theorem d_L_law_1054 : decode code 1054 = .ok (.aload_n 1, 1) := by decide +kernel
theorem d_L_law_1055 : decode code 1055 = .ok (.aload_n 0, 1) := by decide +kernel
theorem d_L_law_1056 : decode code 1056 = .ok (.iload_n 3, 1) := by decide +kernel
theorem d_L_law_1057 : decode code 1057 = .ok (.iconst 1, 1) := by decide +kernel
theorem d_L_law_1058 : decode code 1058 = .ok (.iadd, 1) := by decide +kernel
theorem d_L_law_1059 : decode code 1059 = .ok (.iaload, 1) := by decide +kernel
theorem d_L_law_1060 : decode code 1060 = .ok (.aload_n 0, 1) := by decide +kernel
theorem d_L_law_1061 : decode code 1061 = .ok (.iload_n 3, 1) := by decide +kernel
theorem d_L_law_1062 : decode code 1062 = .ok (.iconst 2, 1) := by decide +kernel
theorem d_L_law_1063 : decode code 1063 = .ok (.iadd, 1) := by decide +kernel
theorem d_L_law_1064 : decode code 1064 = .ok (.iaload, 1) := by decide +kernel
theorem d_L_law_1065 : decode code 1065 = .ok (.invokevirtual 149, 3) := by decide +kernel
theorem d_L_law_1068 : decode code 1068 = .ok (.aload_n 2, 1) := by decide +kernel
theorem d_L_law_1069 : decode code 1069 = .ok (.aload_n 0, 1) := by decide +kernel
theorem d_L_law_1070 : decode code 1070 = .ok (.iload_n 3, 1) := by decide +kernel
theorem d_L_law_1071 : decode code 1071 = .ok (.iconst 1, 1) := by decide +kernel
theorem d_L_law_1072 : decode code 1072 = .ok (.iadd, 1) := by decide +kernel
theorem d_L_law_1073 : decode code 1073 = .ok (.iaload, 1) := by decide +kernel
theorem d_L_law_1074 : decode code 1074 = .ok (.aload_n 0, 1) := by decide +kernel
theorem d_L_law_1075 : decode code 1075 = .ok (.iload_n 3, 1) := by decide +kernel
theorem d_L_law_1076 : decode code 1076 = .ok (.iconst 2, 1) := by decide +kernel
theorem d_L_law_1077 : decode code 1077 = .ok (.iadd, 1) := by decide +kernel
theorem d_L_law_1078 : decode code 1078 = .ok (.iaload, 1) := by decide +kernel
theorem d_L_law_1079 : decode code 1079 = .ok (.invokevirtual 152, 3) := by decide +kernel
theorem d_L_law_1082 : decode code 1082 = .ok (.if_icmp .eq 631, 3) := by decide +kernel
theorem d_L_law_1085 : decode code 1085 = .ok (.iconst 0, 1) := by decide +kernel
theorem d_L_law_1086 : decode code 1086 = .ok (.ireturn, 1) := by decide +kernel
theorem d_L_law_1087 : decode code 1087 = .ok (.aload_n 1, 1) := by decide +kernel
theorem d_L_law_1088 : decode code 1088 = .ok (.invokevirtual 153, 3) := by decide +kernel
theorem d_L_law_1091 : decode code 1091 = .ok (.aload_n 2, 1) := by decide +kernel
theorem d_L_law_1092 : decode code 1092 = .ok (.invokevirtual 156, 3) := by decide +kernel
theorem d_L_law_1095 : decode code 1095 = .ok (.if_icmp .eq 618, 3) := by decide +kernel
theorem d_L_law_1098 : decode code 1098 = .ok (.iconst 0, 1) := by decide +kernel
theorem d_L_law_1099 : decode code 1099 = .ok (.ireturn, 1) := by decide +kernel
theorem d_L_law_1100 : decode code 1100 = .ok (.aload_n 1, 1) := by decide +kernel
theorem d_L_law_1101 : decode code 1101 = .ok (.aload_n 0, 1) := by decide +kernel
theorem d_L_law_1102 : decode code 1102 = .ok (.iload_n 3, 1) := by decide +kernel
theorem d_L_law_1103 : decode code 1103 = .ok (.iconst 1, 1) := by decide +kernel
theorem d_L_law_1104 : decode code 1104 = .ok (.iadd, 1) := by decide +kernel
theorem d_L_law_1105 : decode code 1105 = .ok (.iaload, 1) := by decide +kernel
theorem d_L_law_1106 : decode code 1106 = .ok (.invokevirtual 157, 3) := by decide +kernel
theorem d_L_law_1109 : decode code 1109 = .ok (.aload_n 2, 1) := by decide +kernel
theorem d_L_law_1110 : decode code 1110 = .ok (.aload_n 0, 1) := by decide +kernel
theorem d_L_law_1111 : decode code 1111 = .ok (.iload_n 3, 1) := by decide +kernel
theorem d_L_law_1112 : decode code 1112 = .ok (.iconst 1, 1) := by decide +kernel
theorem d_L_law_1113 : decode code 1113 = .ok (.iadd, 1) := by decide +kernel
theorem d_L_law_1114 : decode code 1114 = .ok (.iaload, 1) := by decide +kernel
theorem d_L_law_1115 : decode code 1115 = .ok (.invokevirtual 160, 3) := by decide +kernel
theorem d_L_law_1118 : decode code 1118 = .ok (.if_icmp .eq 595, 3) := by decide +kernel
theorem d_L_law_1121 : decode code 1121 = .ok (.iconst 0, 1) := by decide +kernel
theorem d_L_law_1122 : decode code 1122 = .ok (.ireturn, 1) := by decide +kernel
theorem d_L_law_1123 : decode code 1123 = .ok (.aload_n 1, 1) := by decide +kernel
theorem d_L_law_1124 : decode code 1124 = .ok (.invokevirtual 161, 3) := by decide +kernel
theorem d_L_law_1127 : decode code 1127 = .ok (.aload_n 2, 1) := by decide +kernel
theorem d_L_law_1128 : decode code 1128 = .ok (.invokevirtual 164, 3) := by decide +kernel
theorem d_L_law_1131 : decode code 1131 = .ok (.if_icmp .eq 582, 3) := by decide +kernel
theorem d_L_law_1134 : decode code 1134 = .ok (.iconst 0, 1) := by decide +kernel
theorem d_L_law_1135 : decode code 1135 = .ok (.ireturn, 1) := by decide +kernel
theorem d_L_law_1136 : decode code 1136 = .ok (.aload_n 1, 1) := by decide +kernel
theorem d_L_law_1137 : decode code 1137 = .ok (.aload_n 0, 1) := by decide +kernel
theorem d_L_law_1138 : decode code 1138 = .ok (.iload_n 3, 1) := by decide +kernel
theorem d_L_law_1139 : decode code 1139 = .ok (.iconst 1, 1) := by decide +kernel
theorem d_L_law_1140 : decode code 1140 = .ok (.iadd, 1) := by decide +kernel
theorem d_L_law_1141 : decode code 1141 = .ok (.iaload, 1) := by decide +kernel
theorem d_L_law_1142 : decode code 1142 = .ok (.invokevirtual 165, 3) := by decide +kernel
theorem d_L_law_1145 : decode code 1145 = .ok (.aload_n 2, 1) := by decide +kernel
theorem d_L_law_1146 : decode code 1146 = .ok (.aload_n 0, 1) := by decide +kernel
theorem d_L_law_1147 : decode code 1147 = .ok (.iload_n 3, 1) := by decide +kernel
theorem d_L_law_1148 : decode code 1148 = .ok (.iconst 1, 1) := by decide +kernel
theorem d_L_law_1149 : decode code 1149 = .ok (.iadd, 1) := by decide +kernel
theorem d_L_law_1150 : decode code 1150 = .ok (.iaload, 1) := by decide +kernel
theorem d_L_law_1151 : decode code 1151 = .ok (.invokevirtual 168, 3) := by decide +kernel
theorem d_L_law_1154 : decode code 1154 = .ok (.if_icmp .eq 559, 3) := by decide +kernel
theorem d_L_law_1157 : decode code 1157 = .ok (.iconst 0, 1) := by decide +kernel
theorem d_L_law_1158 : decode code 1158 = .ok (.ireturn, 1) := by decide +kernel
theorem d_L_law_1159 : decode code 1159 = .ok (.aload_n 1, 1) := by decide +kernel
theorem d_L_law_1160 : decode code 1160 = .ok (.invokevirtual 169, 3) := by decide +kernel
theorem d_L_law_1163 : decode code 1163 = .ok (.aload_n 2, 1) := by decide +kernel
theorem d_L_law_1164 : decode code 1164 = .ok (.invokevirtual 172, 3) := by decide +kernel
theorem d_L_law_1167 : decode code 1167 = .ok (.if_icmp .eq 546, 3) := by decide +kernel
theorem d_L_law_1170 : decode code 1170 = .ok (.iconst 0, 1) := by decide +kernel
theorem d_L_law_1171 : decode code 1171 = .ok (.ireturn, 1) := by decide +kernel
theorem d_L_law_1172 : decode code 1172 = .ok (.aload_n 1, 1) := by decide +kernel
theorem d_L_law_1173 : decode code 1173 = .ok (.aload_n 0, 1) := by decide +kernel
theorem d_L_law_1174 : decode code 1174 = .ok (.iload_n 3, 1) := by decide +kernel
theorem d_L_law_1175 : decode code 1175 = .ok (.iconst 1, 1) := by decide +kernel
theorem d_L_law_1176 : decode code 1176 = .ok (.iadd, 1) := by decide +kernel
theorem d_L_law_1177 : decode code 1177 = .ok (.iaload, 1) := by decide +kernel
theorem d_L_law_1178 : decode code 1178 = .ok (.invokevirtual 173, 3) := by decide +kernel
theorem d_L_law_1181 : decode code 1181 = .ok (.aload_n 2, 1) := by decide +kernel
theorem d_L_law_1182 : decode code 1182 = .ok (.aload_n 0, 1) := by decide +kernel
theorem d_L_law_1183 : decode code 1183 = .ok (.iload_n 3, 1) := by decide +kernel
theorem d_L_law_1184 : decode code 1184 = .ok (.iconst 1, 1) := by decide +kernel
theorem d_L_law_1185 : decode code 1185 = .ok (.iadd, 1) := by decide +kernel
theorem d_L_law_1186 : decode code 1186 = .ok (.iaload, 1) := by decide +kernel
theorem d_L_law_1187 : decode code 1187 = .ok (.invokevirtual 176, 3) := by decide +kernel
theorem d_L_law_1190 : decode code 1190 = .ok (.if_icmp .eq 523, 3) := by decide +kernel
theorem d_L_law_1193 : decode code 1193 = .ok (.iconst 0, 1) := by decide +kernel
theorem d_L_law_1194 : decode code 1194 = .ok (.ireturn, 1) := by decide +kernel
theorem d_L_law_1195 : decode code 1195 = .ok (.aload_n 1, 1) := by decide +kernel
theorem d_L_law_1196 : decode code 1196 = .ok (.aload_n 0, 1) := by decide +kernel
theorem d_L_law_1197 : decode code 1197 = .ok (.iload_n 3, 1) := by decide +kernel
theorem d_L_law_1198 : decode code 1198 = .ok (.iconst 1, 1) := by decide +kernel
theorem d_L_law_1199 : decode code 1199 = .ok (.iadd, 1) := by decide +kernel
theorem d_L_law_1200 : decode code 1200 = .ok (.iaload, 1) := by decide +kernel
theorem d_L_law_1201 : decode code 1201 = .ok (.invokevirtual 177, 3) := by decide +kernel
theorem d_L_law_1204 : decode code 1204 = .ok (.aload_n 2, 1) := by decide +kernel
theorem d_L_law_1205 : decode code 1205 = .ok (.aload_n 0, 1) := by decide +kernel
theorem d_L_law_1206 : decode code 1206 = .ok (.iload_n 3, 1) := by decide +kernel
theorem d_L_law_1207 : decode code 1207 = .ok (.iconst 1, 1) := by decide +kernel
theorem d_L_law_1208 : decode code 1208 = .ok (.iadd, 1) := by decide +kernel
theorem d_L_law_1209 : decode code 1209 = .ok (.iaload, 1) := by decide +kernel
theorem d_L_law_1210 : decode code 1210 = .ok (.invokevirtual 180, 3) := by decide +kernel
theorem d_L_law_1213 : decode code 1213 = .ok (.if_icmp .eq 500, 3) := by decide +kernel
theorem d_L_law_1216 : decode code 1216 = .ok (.iconst 0, 1) := by decide +kernel
theorem d_L_law_1217 : decode code 1217 = .ok (.ireturn, 1) := by decide +kernel
theorem d_L_law_1218 : decode code 1218 = .ok (.aload_n 1, 1) := by decide +kernel
theorem d_L_law_1219 : decode code 1219 = .ok (.aload_n 0, 1) := by decide +kernel
theorem d_L_law_1220 : decode code 1220 = .ok (.iload_n 3, 1) := by decide +kernel
theorem d_L_law_1221 : decode code 1221 = .ok (.iconst 1, 1) := by decide +kernel
theorem d_L_law_1222 : decode code 1222 = .ok (.iadd, 1) := by decide +kernel
theorem d_L_law_1223 : decode code 1223 = .ok (.iaload, 1) := by decide +kernel
theorem d_L_law_1224 : decode code 1224 = .ok (.aload_n 0, 1) := by decide +kernel
theorem d_L_law_1225 : decode code 1225 = .ok (.iload_n 3, 1) := by decide +kernel
theorem d_L_law_1226 : decode code 1226 = .ok (.iconst 2, 1) := by decide +kernel
theorem d_L_law_1227 : decode code 1227 = .ok (.iadd, 1) := by decide +kernel
theorem d_L_law_1228 : decode code 1228 = .ok (.iaload, 1) := by decide +kernel
theorem d_L_law_1229 : decode code 1229 = .ok (.invokevirtual 181, 3) := by decide +kernel
theorem d_L_law_1232 : decode code 1232 = .ok (.aload_n 2, 1) := by decide +kernel
theorem d_L_law_1233 : decode code 1233 = .ok (.aload_n 0, 1) := by decide +kernel
theorem d_L_law_1234 : decode code 1234 = .ok (.iload_n 3, 1) := by decide +kernel
theorem d_L_law_1235 : decode code 1235 = .ok (.iconst 1, 1) := by decide +kernel
theorem d_L_law_1236 : decode code 1236 = .ok (.iadd, 1) := by decide +kernel
theorem d_L_law_1237 : decode code 1237 = .ok (.iaload, 1) := by decide +kernel
theorem d_L_law_1238 : decode code 1238 = .ok (.aload_n 0, 1) := by decide +kernel
theorem d_L_law_1239 : decode code 1239 = .ok (.iload_n 3, 1) := by decide +kernel
theorem d_L_law_1240 : decode code 1240 = .ok (.iconst 2, 1) := by decide +kernel
theorem d_L_law_1241 : decode code 1241 = .ok (.iadd, 1) := by decide +kernel
theorem d_L_law_1242 : decode code 1242 = .ok (.iaload, 1) := by decide +kernel
theorem d_L_law_1243 : decode code 1243 = .ok (.invokevirtual 184, 3) := by decide +kernel
theorem d_L_law_1246 : decode code 1246 = .ok (.if_icmp .eq 467, 3) := by decide +kernel
theorem d_L_law_1249 : decode code 1249 = .ok (.iconst 0, 1) := by decide +kernel
theorem d_L_law_1250 : decode code 1250 = .ok (.ireturn, 1) := by decide +kernel
theorem d_L_law_1251 : decode code 1251 = .ok (.aload_n 1, 1) := by decide +kernel
theorem d_L_law_1252 : decode code 1252 = .ok (.aload_n 0, 1) := by decide +kernel
theorem d_L_law_1253 : decode code 1253 = .ok (.iload_n 3, 1) := by decide +kernel
theorem d_L_law_1254 : decode code 1254 = .ok (.iconst 1, 1) := by decide +kernel
theorem d_L_law_1255 : decode code 1255 = .ok (.iadd, 1) := by decide +kernel
theorem d_L_law_1256 : decode code 1256 = .ok (.iaload, 1) := by decide +kernel
theorem d_L_law_1257 : decode code 1257 = .ok (.aload_n 0, 1) := by decide +kernel
theorem d_L_law_1258 : decode code 1258 = .ok (.iload_n 3, 1) := by decide +kernel
theorem d_L_law_1259 : decode code 1259 = .ok (.iconst 2, 1) := by decide +kernel
theorem d_L_law_1260 : decode code 1260 = .ok (.iadd, 1) := by decide +kernel
theorem d_L_law_1261 : decode code 1261 = .ok (.iaload, 1) := by decide +kernel
theorem d_L_law_1262 : decode code 1262 = .ok (.aload_n 0, 1) := by decide +kernel
theorem d_L_law_1263 : decode code 1263 = .ok (.iload_n 3, 1) := by decide +kernel
theorem d_L_law_1264 : decode code 1264 = .ok (.iconst 3, 1) := by decide +kernel
theorem d_L_law_1265 : decode code 1265 = .ok (.iadd, 1) := by decide +kernel
theorem d_L_law_1266 : decode code 1266 = .ok (.iaload, 1) := by decide +kernel
theorem d_L_law_1267 : decode code 1267 = .ok (.invokevirtual 185, 3) := by decide +kernel
theorem d_L_law_1270 : decode code 1270 = .ok (.aload_n 2, 1) := by decide +kernel
theorem d_L_law_1271 : decode code 1271 = .ok (.aload_n 0, 1) := by decide +kernel
theorem d_L_law_1272 : decode code 1272 = .ok (.iload_n 3, 1) := by decide +kernel
theorem d_L_law_1273 : decode code 1273 = .ok (.iconst 1, 1) := by decide +kernel
theorem d_L_law_1274 : decode code 1274 = .ok (.iadd, 1) := by decide +kernel
theorem d_L_law_1275 : decode code 1275 = .ok (.iaload, 1) := by decide +kernel
theorem d_L_law_1276 : decode code 1276 = .ok (.aload_n 0, 1) := by decide +kernel
theorem d_L_law_1277 : decode code 1277 = .ok (.iload_n 3, 1) := by decide +kernel
theorem d_L_law_1278 : decode code 1278 = .ok (.iconst 2, 1) := by decide +kernel
theorem d_L_law_1279 : decode code 1279 = .ok (.iadd, 1) := by decide +kernel
theorem d_L_law_1280 : decode code 1280 = .ok (.iaload, 1) := by decide +kernel
theorem d_L_law_1281 : decode code 1281 = .ok (.aload_n 0, 1) := by decide +kernel
theorem d_L_law_1282 : decode code 1282 = .ok (.iload_n 3, 1) := by decide +kernel
theorem d_L_law_1283 : decode code 1283 = .ok (.iconst 3, 1) := by decide +kernel
theorem d_L_law_1284 : decode code 1284 = .ok (.iadd, 1) := by decide +kernel
theorem d_L_law_1285 : decode code 1285 = .ok (.iaload, 1) := by decide +kernel
theorem d_L_law_1286 : decode code 1286 = .ok (.invokevirtual 188, 3) := by decide +kernel
theorem d_L_law_1289 : decode code 1289 = .ok (.if_icmp .eq 424, 3) := by decide +kernel
theorem d_L_law_1292 : decode code 1292 = .ok (.iconst 0, 1) := by decide +kernel
theorem d_L_law_1293 : decode code 1293 = .ok (.ireturn, 1) := by decide +kernel
theorem d_L_law_1294 : decode code 1294 = .ok (.aload_n 1, 1) := by decide +kernel
theorem d_L_law_1295 : decode code 1295 = .ok (.invokevirtual 189, 3) := by decide +kernel
theorem d_L_law_1298 : decode code 1298 = .ok (.aload_n 2, 1) := by decide +kernel
theorem d_L_law_1299 : decode code 1299 = .ok (.invokevirtual 192, 3) := by decide +kernel
theorem d_L_law_1302 : decode code 1302 = .ok (.if_icmp .eq 411, 3) := by decide +kernel
theorem d_L_law_1305 : decode code 1305 = .ok (.iconst 0, 1) := by decide +kernel
theorem d_L_law_1306 : decode code 1306 = .ok (.ireturn, 1) := by decide +kernel
theorem d_L_law_1307 : decode code 1307 = .ok (.aload_n 1, 1) := by decide +kernel
theorem d_L_law_1308 : decode code 1308 = .ok (.aload_n 0, 1) := by decide +kernel
theorem d_L_law_1309 : decode code 1309 = .ok (.iload_n 3, 1) := by decide +kernel
theorem d_L_law_1310 : decode code 1310 = .ok (.iconst 1, 1) := by decide +kernel
theorem d_L_law_1311 : decode code 1311 = .ok (.iadd, 1) := by decide +kernel
theorem d_L_law_1312 : decode code 1312 = .ok (.iaload, 1) := by decide +kernel
theorem d_L_law_1313 : decode code 1313 = .ok (.aload_n 0, 1) := by decide +kernel
theorem d_L_law_1314 : decode code 1314 = .ok (.iload_n 3, 1) := by decide +kernel
theorem d_L_law_1315 : decode code 1315 = .ok (.iconst 2, 1) := by decide +kernel
theorem d_L_law_1316 : decode code 1316 = .ok (.iadd, 1) := by decide +kernel
theorem d_L_law_1317 : decode code 1317 = .ok (.iaload, 1) := by decide +kernel
theorem d_L_law_1318 : decode code 1318 = .ok (.aload_n 0, 1) := by decide +kernel
theorem d_L_law_1319 : decode code 1319 = .ok (.iload_n 3, 1) := by decide +kernel
theorem d_L_law_1320 : decode code 1320 = .ok (.iconst 3, 1) := by decide +kernel
theorem d_L_law_1321 : decode code 1321 = .ok (.iadd, 1) := by decide +kernel
theorem d_L_law_1322 : decode code 1322 = .ok (.iaload, 1) := by decide +kernel
theorem d_L_law_1323 : decode code 1323 = .ok (.invokevirtual 193, 3) := by decide +kernel
theorem d_L_law_1326 : decode code 1326 = .ok (.aload_n 2, 1) := by decide +kernel
theorem d_L_law_1327 : decode code 1327 = .ok (.aload_n 0, 1) := by decide +kernel
theorem d_L_law_1328 : decode code 1328 = .ok (.iload_n 3, 1) := by decide +kernel
theorem d_L_law_1329 : decode code 1329 = .ok (.iconst 1, 1) := by decide +kernel
theorem d_L_law_1330 : decode code 1330 = .ok (.iadd, 1) := by decide +kernel
theorem d_L_law_1331 : decode code 1331 = .ok (.iaload, 1) := by decide +kernel
theorem d_L_law_1332 : decode code 1332 = .ok (.aload_n 0, 1) := by decide +kernel
theorem d_L_law_1333 : decode code 1333 = .ok (.iload_n 3, 1) := by decide +kernel
theorem d_L_law_1334 : decode code 1334 = .ok (.iconst 2, 1) := by decide +kernel
theorem d_L_law_1335 : decode code 1335 = .ok (.iadd, 1) := by decide +kernel
theorem d_L_law_1336 : decode code 1336 = .ok (.iaload, 1) := by decide +kernel
theorem d_L_law_1337 : decode code 1337 = .ok (.aload_n 0, 1) := by decide +kernel
theorem d_L_law_1338 : decode code 1338 = .ok (.iload_n 3, 1) := by decide +kernel
theorem d_L_law_1339 : decode code 1339 = .ok (.iconst 3, 1) := by decide +kernel
theorem d_L_law_1340 : decode code 1340 = .ok (.iadd, 1) := by decide +kernel
theorem d_L_law_1341 : decode code 1341 = .ok (.iaload, 1) := by decide +kernel
theorem d_L_law_1342 : decode code 1342 = .ok (.invokevirtual 196, 3) := by decide +kernel
theorem d_L_law_1345 : decode code 1345 = .ok (.if_icmp .eq 368, 3) := by decide +kernel
theorem d_L_law_1348 : decode code 1348 = .ok (.iconst 0, 1) := by decide +kernel
theorem d_L_law_1349 : decode code 1349 = .ok (.ireturn, 1) := by decide +kernel
theorem d_L_law_1350 : decode code 1350 = .ok (.aload_n 1, 1) := by decide +kernel
theorem d_L_law_1351 : decode code 1351 = .ok (.aload_n 0, 1) := by decide +kernel
theorem d_L_law_1352 : decode code 1352 = .ok (.iload_n 3, 1) := by decide +kernel
theorem d_L_law_1353 : decode code 1353 = .ok (.iconst 1, 1) := by decide +kernel
theorem d_L_law_1354 : decode code 1354 = .ok (.iadd, 1) := by decide +kernel
theorem d_L_law_1355 : decode code 1355 = .ok (.iaload, 1) := by decide +kernel
theorem d_L_law_1356 : decode code 1356 = .ok (.aload_n 0, 1) := by decide +kernel
theorem d_L_law_1357 : decode code 1357 = .ok (.iload_n 3, 1) := by decide +kernel
theorem d_L_law_1358 : decode code 1358 = .ok (.iconst 2, 1) := by decide +kernel
theorem d_L_law_1359 : decode code 1359 = .ok (.iadd, 1) := by decide +kernel
theorem d_L_law_1360 : decode code 1360 = .ok (.iaload, 1) := by decide +kernel
theorem d_L_law_1361 : decode code 1361 = .ok (.aload_n 0, 1) := by decide +kernel
theorem d_L_law_1362 : decode code 1362 = .ok (.iload_n 3, 1) := by decide +kernel
theorem d_L_law_1363 : decode code 1363 = .ok (.iconst 3, 1) := by decide +kernel
theorem d_L_law_1364 : decode code 1364 = .ok (.iadd, 1) := by decide +kernel
theorem d_L_law_1365 : decode code 1365 = .ok (.iaload, 1) := by decide +kernel
theorem d_L_law_1366 : decode code 1366 = .ok (.invokevirtual 197, 3) := by decide +kernel
theorem d_L_law_1369 : decode code 1369 = .ok (.aload_n 2, 1) := by decide +kernel
theorem d_L_law_1370 : decode code 1370 = .ok (.aload_n 0, 1) := by decide +kernel
theorem d_L_law_1371 : decode code 1371 = .ok (.iload_n 3, 1) := by decide +kernel
theorem d_L_law_1372 : decode code 1372 = .ok (.iconst 1, 1) := by decide +kernel
theorem d_L_law_1373 : decode code 1373 = .ok (.iadd, 1) := by decide +kernel
theorem d_L_law_1374 : decode code 1374 = .ok (.iaload, 1) := by decide +kernel
theorem d_L_law_1375 : decode code 1375 = .ok (.aload_n 0, 1) := by decide +kernel
theorem d_L_law_1376 : decode code 1376 = .ok (.iload_n 3, 1) := by decide +kernel
theorem d_L_law_1377 : decode code 1377 = .ok (.iconst 2, 1) := by decide +kernel
theorem d_L_law_1378 : decode code 1378 = .ok (.iadd, 1) := by decide +kernel
theorem d_L_law_1379 : decode code 1379 = .ok (.iaload, 1) := by decide +kernel
theorem d_L_law_1380 : decode code 1380 = .ok (.aload_n 0, 1) := by decide +kernel
theorem d_L_law_1381 : decode code 1381 = .ok (.iload_n 3, 1) := by decide +kernel
theorem d_L_law_1382 : decode code 1382 = .ok (.iconst 3, 1) := by decide +kernel
theorem d_L_law_1383 : decode code 1383 = .ok (.iadd, 1) := by decide +kernel
theorem d_L_law_1384 : decode code 1384 = .ok (.iaload, 1) := by decide +kernel
theorem d_L_law_1385 : decode code 1385 = .ok (.invokevirtual 200, 3) := by decide +kernel
theorem d_L_law_1388 : decode code 1388 = .ok (.if_icmp .eq 325, 3) := by decide +kernel
theorem d_L_law_1391 : decode code 1391 = .ok (.iconst 0, 1) := by decide +kernel
theorem d_L_law_1392 : decode code 1392 = .ok (.ireturn, 1) := by decide +kernel
theorem d_L_law_1393 : decode code 1393 = .ok (.aload_n 1, 1) := by decide +kernel
theorem d_L_law_1394 : decode code 1394 = .ok (.aload_n 0, 1) := by decide +kernel
theorem d_L_law_1395 : decode code 1395 = .ok (.iload_n 3, 1) := by decide +kernel
theorem d_L_law_1396 : decode code 1396 = .ok (.iconst 1, 1) := by decide +kernel
theorem d_L_law_1397 : decode code 1397 = .ok (.iadd, 1) := by decide +kernel
theorem d_L_law_1398 : decode code 1398 = .ok (.iaload, 1) := by decide +kernel
theorem d_L_law_1399 : decode code 1399 = .ok (.aload_n 0, 1) := by decide +kernel
theorem d_L_law_1400 : decode code 1400 = .ok (.iload_n 3, 1) := by decide +kernel
theorem d_L_law_1401 : decode code 1401 = .ok (.iconst 2, 1) := by decide +kernel
theorem d_L_law_1402 : decode code 1402 = .ok (.iadd, 1) := by decide +kernel
theorem d_L_law_1403 : decode code 1403 = .ok (.iaload, 1) := by decide +kernel
theorem d_L_law_1404 : decode code 1404 = .ok (.aload_n 0, 1) := by decide +kernel
theorem d_L_law_1405 : decode code 1405 = .ok (.iload_n 3, 1) := by decide +kernel
theorem d_L_law_1406 : decode code 1406 = .ok (.iconst 3, 1) := by decide +kernel
theorem d_L_law_1407 : decode code 1407 = .ok (.iadd, 1) := by decide +kernel
theorem d_L_law_1408 : decode code 1408 = .ok (.iaload, 1) := by decide +kernel
theorem d_L_law_1409 : decode code 1409 = .ok (.invokevirtual 201, 3) := by decide +kernel
theorem d_L_law_1412 : decode code 1412 = .ok (.aload_n 2, 1) := by decide +kernel
theorem d_L_law_1413 : decode code 1413 = .ok (.aload_n 0, 1) := by decide +kernel
theorem d_L_law_1414 : decode code 1414 = .ok (.iload_n 3, 1) := by decide +kernel
theorem d_L_law_1415 : decode code 1415 = .ok (.iconst 1, 1) := by decide +kernel
theorem d_L_law_1416 : decode code 1416 = .ok (.iadd, 1) := by decide +kernel
theorem d_L_law_1417 : decode code 1417 = .ok (.iaload, 1) := by decide +kernel
theorem d_L_law_1418 : decode code 1418 = .ok (.aload_n 0, 1) := by decide +kernel
theorem d_L_law_1419 : decode code 1419 = .ok (.iload_n 3, 1) := by decide +kernel
theorem d_L_law_1420 : decode code 1420 = .ok (.iconst 2, 1) := by decide +kernel
theorem d_L_law_1421 : decode code 1421 = .ok (.iadd, 1) := by decide +kernel
theorem d_L_law_1422 : decode code 1422 = .ok (.iaload, 1) := by decide +kernel
theorem d_L_law_1423 : decode code 1423 = .ok (.aload_n 0, 1) := by decide +kernel
theorem d_L_law_1424 : decode code 1424 = .ok (.iload_n 3, 1) := by decide +kernel
theorem d_L_law_1425 : decode code 1425 = .ok (.iconst 3, 1) := by decide +kernel
theorem d_L_law_1426 : decode code 1426 = .ok (.iadd, 1) := by decide +kernel
theorem d_L_law_1427 : decode code 1427 = .ok (.iaload, 1) := by decide +kernel
theorem d_L_law_1428 : decode code 1428 = .ok (.invokevirtual 204, 3) := by decide +kernel
theorem d_L_law_1431 : decode code 1431 = .ok (.if_icmp .eq 282, 3) := by decide +kernel
theorem d_L_law_1434 : decode code 1434 = .ok (.iconst 0, 1) := by decide +kernel
theorem d_L_law_1435 : decode code 1435 = .ok (.ireturn, 1) := by decide +kernel
theorem d_L_law_1436 : decode code 1436 = .ok (.aload_n 1, 1) := by decide +kernel
theorem d_L_law_1437 : decode code 1437 = .ok (.aload_n 0, 1) := by decide +kernel
theorem d_L_law_1438 : decode code 1438 = .ok (.iload_n 3, 1) := by decide +kernel
theorem d_L_law_1439 : decode code 1439 = .ok (.iconst 1, 1) := by decide +kernel
theorem d_L_law_1440 : decode code 1440 = .ok (.iadd, 1) := by decide +kernel
theorem d_L_law_1441 : decode code 1441 = .ok (.iaload, 1) := by decide +kernel
theorem d_L_law_1442 : decode code 1442 = .ok (.aload_n 0, 1) := by decide +kernel
theorem d_L_law_1443 : decode code 1443 = .ok (.iload_n 3, 1) := by decide +kernel
theorem d_L_law_1444 : decode code 1444 = .ok (.iconst 2, 1) := by decide +kernel
theorem d_L_law_1445 : decode code 1445 = .ok (.iadd, 1) := by decide +kernel
theorem d_L_law_1446 : decode code 1446 = .ok (.iaload, 1) := by decide +kernel
theorem d_L_law_1447 : decode code 1447 = .ok (.aload_n 0, 1) := by decide +kernel
theorem d_L_law_1448 : decode code 1448 = .ok (.iload_n 3, 1) := by decide +kernel
theorem d_L_law_1449 : decode code 1449 = .ok (.iconst 3, 1) := by decide +kernel
theorem d_L_law_1450 : decode code 1450 = .ok (.iadd, 1) := by decide +kernel
theorem d_L_law_1451 : decode code 1451 = .ok (.iaload, 1) := by decide +kernel
theorem d_L_law_1452 : decode code 1452 = .ok (.invokevirtual 205, 3) := by decide +kernel
theorem d_L_law_1455 : decode code 1455 = .ok (.aload_n 2, 1) := by decide +kernel
theorem d_L_law_1456 : decode code 1456 = .ok (.aload_n 0, 1) := by decide +kernel
theorem d_L_law_1457 : decode code 1457 = .ok (.iload_n 3, 1) := by decide +kernel
theorem d_L_law_1458 : decode code 1458 = .ok (.iconst 1, 1) := by decide +kernel
theorem d_L_law_1459 : decode code 1459 = .ok (.iadd, 1) := by decide +kernel
theorem d_L_law_1460 : decode code 1460 = .ok (.iaload, 1) := by decide +kernel
theorem d_L_law_1461 : decode code 1461 = .ok (.aload_n 0, 1) := by decide +kernel
theorem d_L_law_1462 : decode code 1462 = .ok (.iload_n 3, 1) := by decide +kernel
theorem d_L_law_1463 : decode code 1463 = .ok (.iconst 2, 1) := by decide +kernel
theorem d_L_law_1464 : decode code 1464 = .ok (.iadd, 1) := by decide +kernel
theorem d_L_law_1465 : decode code 1465 = .ok (.iaload, 1) := by decide +kernel
theorem d_L_law_1466 : decode code 1466 = .ok (.aload_n 0, 1) := by decide +kernel
theorem d_L_law_1467 : decode code 1467 = .ok (.iload_n 3, 1) := by decide +kernel
theorem d_L_law_1468 : decode code 1468 = .ok (.iconst 3, 1) := by decide +kernel
theorem d_L_law_1469 : decode code 1469 = .ok (.iadd, 1) := by decide +kernel
theorem d_L_law_1470 : decode code 1470 = .ok (.iaload, 1) := by decide +kernel
theorem d_L_law_1471 : decode code 1471 = .ok (.invokevirtual 208, 3) := by decide +kernel
theorem d_L_law_1474 : decode code 1474 = .ok (.if_icmp .eq 239, 3) := by decide +kernel
theorem d_L_law_1477 : decode code 1477 = .ok (.iconst 0, 1) := by decide +kernel
theorem d_L_law_1478 : decode code 1478 = .ok (.ireturn, 1) := by decide +kernel
theorem d_L_law_1479 : decode code 1479 = .ok (.aload_n 1, 1) := by decide +kernel
theorem d_L_law_1480 : decode code 1480 = .ok (.aload_n 0, 1) := by decide +kernel
theorem d_L_law_1481 : decode code 1481 = .ok (.iload_n 3, 1) := by decide +kernel
theorem d_L_law_1482 : decode code 1482 = .ok (.iconst 1, 1) := by decide +kernel
theorem d_L_law_1483 : decode code 1483 = .ok (.iadd, 1) := by decide +kernel
theorem d_L_law_1484 : decode code 1484 = .ok (.iaload, 1) := by decide +kernel
theorem d_L_law_1485 : decode code 1485 = .ok (.aload_n 0, 1) := by decide +kernel
theorem d_L_law_1486 : decode code 1486 = .ok (.iload_n 3, 1) := by decide +kernel
theorem d_L_law_1487 : decode code 1487 = .ok (.iconst 2, 1) := by decide +kernel
theorem d_L_law_1488 : decode code 1488 = .ok (.iadd, 1) := by decide +kernel
theorem d_L_law_1489 : decode code 1489 = .ok (.iaload, 1) := by decide +kernel
theorem d_L_law_1490 : decode code 1490 = .ok (.aload_n 0, 1) := by decide +kernel
theorem d_L_law_1491 : decode code 1491 = .ok (.iload_n 3, 1) := by decide +kernel
theorem d_L_law_1492 : decode code 1492 = .ok (.iconst 3, 1) := by decide +kernel
theorem d_L_law_1493 : decode code 1493 = .ok (.iadd, 1) := by decide +kernel
theorem d_L_law_1494 : decode code 1494 = .ok (.iaload, 1) := by decide +kernel
theorem d_L_law_1495 : decode code 1495 = .ok (.invokevirtual 209, 3) := by decide +kernel
theorem d_L_law_1498 : decode code 1498 = .ok (.aload_n 2, 1) := by decide +kernel
theorem d_L_law_1499 : decode code 1499 = .ok (.aload_n 0, 1) := by decide +kernel
theorem d_L_law_1500 : decode code 1500 = .ok (.iload_n 3, 1) := by decide +kernel
theorem d_L_law_1501 : decode code 1501 = .ok (.iconst 1, 1) := by decide +kernel
theorem d_L_law_1502 : decode code 1502 = .ok (.iadd, 1) := by decide +kernel
theorem d_L_law_1503 : decode code 1503 = .ok (.iaload, 1) := by decide +kernel
theorem d_L_law_1504 : decode code 1504 = .ok (.aload_n 0, 1) := by decide +kernel
theorem d_L_law_1505 : decode code 1505 = .ok (.iload_n 3, 1) := by decide +kernel
theorem d_L_law_1506 : decode code 1506 = .ok (.iconst 2, 1) := by decide +kernel
theorem d_L_law_1507 : decode code 1507 = .ok (.iadd, 1) := by decide +kernel
theorem d_L_law_1508 : decode code 1508 = .ok (.iaload, 1) := by decide +kernel
theorem d_L_law_1509 : decode code 1509 = .ok (.aload_n 0, 1) := by decide +kernel
theorem d_L_law_1510 : decode code 1510 = .ok (.iload_n 3, 1) := by decide +kernel
theorem d_L_law_1511 : decode code 1511 = .ok (.iconst 3, 1) := by decide +kernel
theorem d_L_law_1512 : decode code 1512 = .ok (.iadd, 1) := by decide +kernel
theorem d_L_law_1513 : decode code 1513 = .ok (.iaload, 1) := by decide +kernel
theorem d_L_law_1514 : decode code 1514 = .ok (.invokevirtual 212, 3) := by decide +kernel
theorem d_L_law_1517 : decode code 1517 = .ok (.if_icmp .eq 196, 3) := by decide +kernel
theorem d_L_law_1520 : decode code 1520 = .ok (.iconst 0, 1) := by decide +kernel
theorem d_L_law_1521 : decode code 1521 = .ok (.ireturn, 1) := by decide +kernel
theorem d_L_law_1522 : decode code 1522 = .ok (.aload_n 1, 1) := by decide +kernel
theorem d_L_law_1523 : decode code 1523 = .ok (.aload_n 0, 1) := by decide +kernel
theorem d_L_law_1524 : decode code 1524 = .ok (.iload_n 3, 1) := by decide +kernel
theorem d_L_law_1525 : decode code 1525 = .ok (.iconst 1, 1) := by decide +kernel
theorem d_L_law_1526 : decode code 1526 = .ok (.iadd, 1) := by decide +kernel
theorem d_L_law_1527 : decode code 1527 = .ok (.iaload, 1) := by decide +kernel
theorem d_L_law_1528 : decode code 1528 = .ok (.aload_n 0, 1) := by decide +kernel
theorem d_L_law_1529 : decode code 1529 = .ok (.iload_n 3, 1) := by decide +kernel
theorem d_L_law_1530 : decode code 1530 = .ok (.iconst 2, 1) := by decide +kernel
theorem d_L_law_1531 : decode code 1531 = .ok (.iadd, 1) := by decide +kernel
theorem d_L_law_1532 : decode code 1532 = .ok (.iaload, 1) := by decide +kernel
theorem d_L_law_1533 : decode code 1533 = .ok (.aload_n 0, 1) := by decide +kernel
theorem d_L_law_1534 : decode code 1534 = .ok (.iload_n 3, 1) := by decide +kernel
theorem d_L_law_1535 : decode code 1535 = .ok (.iconst 3, 1) := by decide +kernel
theorem d_L_law_1536 : decode code 1536 = .ok (.iadd, 1) := by decide +kernel
theorem d_L_law_1537 : decode code 1537 = .ok (.iaload, 1) := by decide +kernel
theorem d_L_law_1538 : decode code 1538 = .ok (.invokevirtual 213, 3) := by decide +kernel
theorem d_L_law_1541 : decode code 1541 = .ok (.aload_n 2, 1) := by decide +kernel
theorem d_L_law_1542 : decode code 1542 = .ok (.aload_n 0, 1) := by decide +kernel
theorem d_L_law_1543 : decode code 1543 = .ok (.iload_n 3, 1) := by decide +kernel
theorem d_L_law_1544 : decode code 1544 = .ok (.iconst 1, 1) := by decide +kernel
theorem d_L_law_1545 : decode code 1545 = .ok (.iadd, 1) := by decide +kernel
theorem d_L_law_1546 : decode code 1546 = .ok (.iaload, 1) := by decide +kernel
theorem d_L_law_1547 : decode code 1547 = .ok (.aload_n 0, 1) := by decide +kernel
theorem d_L_law_1548 : decode code 1548 = .ok (.iload_n 3, 1) := by decide +kernel
theorem d_L_law_1549 : decode code 1549 = .ok (.iconst 2, 1) := by decide +kernel
theorem d_L_law_1550 : decode code 1550 = .ok (.iadd, 1) := by decide +kernel
theorem d_L_law_1551 : decode code 1551 = .ok (.iaload, 1) := by decide +kernel
theorem d_L_law_1552 : decode code 1552 = .ok (.aload_n 0, 1) := by decide +kernel
theorem d_L_law_1553 : decode code 1553 = .ok (.iload_n 3, 1) := by decide +kernel
theorem d_L_law_1554 : decode code 1554 = .ok (.iconst 3, 1) := by decide +kernel
theorem d_L_law_1555 : decode code 1555 = .ok (.iadd, 1) := by decide +kernel
theorem d_L_law_1556 : decode code 1556 = .ok (.iaload, 1) := by decide +kernel
theorem d_L_law_1557 : decode code 1557 = .ok (.invokevirtual 216, 3) := by decide +kernel
theorem d_L_law_1560 : decode code 1560 = .ok (.if_icmp .eq 153, 3) := by decide +kernel
theorem d_L_law_1563 : decode code 1563 = .ok (.iconst 0, 1) := by decide +kernel
theorem d_L_law_1564 : decode code 1564 = .ok (.ireturn, 1) := by decide +kernel
theorem d_L_law_1565 : decode code 1565 = .ok (.aload_n 1, 1) := by decide +kernel
theorem d_L_law_1566 : decode code 1566 = .ok (.aload_n 0, 1) := by decide +kernel
theorem d_L_law_1567 : decode code 1567 = .ok (.iload_n 3, 1) := by decide +kernel
theorem d_L_law_1568 : decode code 1568 = .ok (.iconst 1, 1) := by decide +kernel
theorem d_L_law_1569 : decode code 1569 = .ok (.iadd, 1) := by decide +kernel
theorem d_L_law_1570 : decode code 1570 = .ok (.iaload, 1) := by decide +kernel
theorem d_L_law_1571 : decode code 1571 = .ok (.aload_n 0, 1) := by decide +kernel
theorem d_L_law_1572 : decode code 1572 = .ok (.iload_n 3, 1) := by decide +kernel
theorem d_L_law_1573 : decode code 1573 = .ok (.iconst 2, 1) := by decide +kernel
theorem d_L_law_1574 : decode code 1574 = .ok (.iadd, 1) := by decide +kernel
theorem d_L_law_1575 : decode code 1575 = .ok (.iaload, 1) := by decide +kernel
theorem d_L_law_1576 : decode code 1576 = .ok (.invokevirtual 217, 3) := by decide +kernel
theorem d_L_law_1579 : decode code 1579 = .ok (.aload_n 2, 1) := by decide +kernel
theorem d_L_law_1580 : decode code 1580 = .ok (.aload_n 0, 1) := by decide +kernel
theorem d_L_law_1581 : decode code 1581 = .ok (.iload_n 3, 1) := by decide +kernel
theorem d_L_law_1582 : decode code 1582 = .ok (.iconst 1, 1) := by decide +kernel
theorem d_L_law_1583 : decode code 1583 = .ok (.iadd, 1) := by decide +kernel
theorem d_L_law_1584 : decode code 1584 = .ok (.iaload, 1) := by decide +kernel
theorem d_L_law_1585 : decode code 1585 = .ok (.aload_n 0, 1) := by decide +kernel
theorem d_L_law_1586 : decode code 1586 = .ok (.iload_n 3, 1) := by decide +kernel
theorem d_L_law_1587 : decode code 1587 = .ok (.iconst 2, 1) := by decide +kernel
theorem d_L_law_1588 : decode code 1588 = .ok (.iadd, 1) := by decide +kernel
theorem d_L_law_1589 : decode code 1589 = .ok (.iaload, 1) := by decide +kernel
theorem d_L_law_1590 : decode code 1590 = .ok (.invokevirtual 220, 3) := by decide +kernel
theorem d_L_law_1593 : decode code 1593 = .ok (.if_icmp .eq 120, 3) := by decide +kernel
theorem d_L_law_1596 : decode code 1596 = .ok (.iconst 0, 1) := by decide +kernel
theorem d_L_law_1597 : decode code 1597 = .ok (.ireturn, 1) := by decide +kernel
theorem d_L_law_1598 : decode code 1598 = .ok (.aload_n 1, 1) := by decide +kernel
theorem d_L_law_1599 : decode code 1599 = .ok (.aload_n 0, 1) := by decide +kernel
theorem d_L_law_1600 : decode code 1600 = .ok (.iload_n 3, 1) := by decide +kernel
theorem d_L_law_1601 : decode code 1601 = .ok (.iconst 1, 1) := by decide +kernel
theorem d_L_law_1602 : decode code 1602 = .ok (.iadd, 1) := by decide +kernel
theorem d_L_law_1603 : decode code 1603 = .ok (.iaload, 1) := by decide +kernel
theorem d_L_law_1604 : decode code 1604 = .ok (.aload_n 0, 1) := by decide +kernel
theorem d_L_law_1605 : decode code 1605 = .ok (.iload_n 3, 1) := by decide +kernel
theorem d_L_law_1606 : decode code 1606 = .ok (.iconst 2, 1) := by decide +kernel
theorem d_L_law_1607 : decode code 1607 = .ok (.iadd, 1) := by decide +kernel
theorem d_L_law_1608 : decode code 1608 = .ok (.iaload, 1) := by decide +kernel
theorem d_L_law_1609 : decode code 1609 = .ok (.aload_n 0, 1) := by decide +kernel
theorem d_L_law_1610 : decode code 1610 = .ok (.iload_n 3, 1) := by decide +kernel
theorem d_L_law_1611 : decode code 1611 = .ok (.iconst 3, 1) := by decide +kernel
theorem d_L_law_1612 : decode code 1612 = .ok (.iadd, 1) := by decide +kernel
theorem d_L_law_1613 : decode code 1613 = .ok (.iaload, 1) := by decide +kernel
theorem d_L_law_1614 : decode code 1614 = .ok (.invokevirtual 221, 3) := by decide +kernel
theorem d_L_law_1617 : decode code 1617 = .ok (.aload_n 2, 1) := by decide +kernel
theorem d_L_law_1618 : decode code 1618 = .ok (.aload_n 0, 1) := by decide +kernel
theorem d_L_law_1619 : decode code 1619 = .ok (.iload_n 3, 1) := by decide +kernel
theorem d_L_law_1620 : decode code 1620 = .ok (.iconst 1, 1) := by decide +kernel
theorem d_L_law_1621 : decode code 1621 = .ok (.iadd, 1) := by decide +kernel
theorem d_L_law_1622 : decode code 1622 = .ok (.iaload, 1) := by decide +kernel
theorem d_L_law_1623 : decode code 1623 = .ok (.aload_n 0, 1) := by decide +kernel
theorem d_L_law_1624 : decode code 1624 = .ok (.iload_n 3, 1) := by decide +kernel
theorem d_L_law_1625 : decode code 1625 = .ok (.iconst 2, 1) := by decide +kernel
theorem d_L_law_1626 : decode code 1626 = .ok (.iadd, 1) := by decide +kernel
theorem d_L_law_1627 : decode code 1627 = .ok (.iaload, 1) := by decide +kernel
theorem d_L_law_1628 : decode code 1628 = .ok (.aload_n 0, 1) := by decide +kernel
theorem d_L_law_1629 : decode code 1629 = .ok (.iload_n 3, 1) := by decide +kernel
theorem d_L_law_1630 : decode code 1630 = .ok (.iconst 3, 1) := by decide +kernel
theorem d_L_law_1631 : decode code 1631 = .ok (.iadd, 1) := by decide +kernel
theorem d_L_law_1632 : decode code 1632 = .ok (.iaload, 1) := by decide +kernel
theorem d_L_law_1633 : decode code 1633 = .ok (.invokevirtual 224, 3) := by decide +kernel
theorem d_L_law_1636 : decode code 1636 = .ok (.if_icmp .eq 77, 3) := by decide +kernel
theorem d_L_law_1639 : decode code 1639 = .ok (.iconst 0, 1) := by decide +kernel
theorem d_L_law_1640 : decode code 1640 = .ok (.ireturn, 1) := by decide +kernel
theorem d_L_law_1641 : decode code 1641 = .ok (.aload_n 1, 1) := by decide +kernel
theorem d_L_law_1642 : decode code 1642 = .ok (.aload_n 0, 1) := by decide +kernel
theorem d_L_law_1643 : decode code 1643 = .ok (.iload_n 3, 1) := by decide +kernel
theorem d_L_law_1644 : decode code 1644 = .ok (.iconst 1, 1) := by decide +kernel
theorem d_L_law_1645 : decode code 1645 = .ok (.iadd, 1) := by decide +kernel
theorem d_L_law_1646 : decode code 1646 = .ok (.iaload, 1) := by decide +kernel
theorem d_L_law_1647 : decode code 1647 = .ok (.invokevirtual 225, 3) := by decide +kernel
theorem d_L_law_1650 : decode code 1650 = .ok (.aload_n 2, 1) := by decide +kernel
theorem d_L_law_1651 : decode code 1651 = .ok (.aload_n 0, 1) := by decide +kernel
theorem d_L_law_1652 : decode code 1652 = .ok (.iload_n 3, 1) := by decide +kernel
theorem d_L_law_1653 : decode code 1653 = .ok (.iconst 1, 1) := by decide +kernel
theorem d_L_law_1654 : decode code 1654 = .ok (.iadd, 1) := by decide +kernel
theorem d_L_law_1655 : decode code 1655 = .ok (.iaload, 1) := by decide +kernel
theorem d_L_law_1656 : decode code 1656 = .ok (.invokevirtual 228, 3) := by decide +kernel
theorem d_L_law_1659 : decode code 1659 = .ok (.if_icmp .eq 54, 3) := by decide +kernel
theorem d_L_law_1662 : decode code 1662 = .ok (.iconst 0, 1) := by decide +kernel
theorem d_L_law_1663 : decode code 1663 = .ok (.ireturn, 1) := by decide +kernel
theorem d_L_law_1664 : decode code 1664 = .ok (.aload_n 1, 1) := by decide +kernel
theorem d_L_law_1665 : decode code 1665 = .ok (.aload_n 0, 1) := by decide +kernel
theorem d_L_law_1666 : decode code 1666 = .ok (.iload_n 3, 1) := by decide +kernel
theorem d_L_law_1667 : decode code 1667 = .ok (.iconst 1, 1) := by decide +kernel
theorem d_L_law_1668 : decode code 1668 = .ok (.iadd, 1) := by decide +kernel
theorem d_L_law_1669 : decode code 1669 = .ok (.iaload, 1) := by decide +kernel
theorem d_L_law_1670 : decode code 1670 = .ok (.invokevirtual 229, 3) := by decide +kernel
theorem d_L_law_1673 : decode code 1673 = .ok (.aload_n 2, 1) := by decide +kernel
theorem d_L_law_1674 : decode code 1674 = .ok (.aload_n 0, 1) := by decide +kernel
theorem d_L_law_1675 : decode code 1675 = .ok (.iload_n 3, 1) := by decide +kernel
theorem d_L_law_1676 : decode code 1676 = .ok (.iconst 1, 1) := by decide +kernel
theorem d_L_law_1677 : decode code 1677 = .ok (.iadd, 1) := by decide +kernel
theorem d_L_law_1678 : decode code 1678 = .ok (.iaload, 1) := by decide +kernel
theorem d_L_law_1679 : decode code 1679 = .ok (.invokevirtual 232, 3) := by decide +kernel
theorem d_L_law_1682 : decode code 1682 = .ok (.if_icmp .eq 31, 3) := by decide +kernel
theorem d_L_law_1685 : decode code 1685 = .ok (.iconst 0, 1) := by decide +kernel
theorem d_L_law_1686 : decode code 1686 = .ok (.ireturn, 1) := by decide +kernel
theorem d_L_law_1687 : decode code 1687 = .ok (.aload_n 1, 1) := by decide +kernel
theorem d_L_law_1688 : decode code 1688 = .ok (.invokevirtual 233, 3) := by decide +kernel
theorem d_L_law_1691 : decode code 1691 = .ok (.aload_n 2, 1) := by decide +kernel
theorem d_L_law_1692 : decode code 1692 = .ok (.invokevirtual 236, 3) := by decide +kernel
theorem d_L_law_1695 : decode code 1695 = .ok (.if_icmp .eq 18, 3) := by decide +kernel
theorem d_L_law_1698 : decode code 1698 = .ok (.iconst 0, 1) := by decide +kernel
theorem d_L_law_1699 : decode code 1699 = .ok (.ireturn, 1) := by decide +kernel
theorem d_L_law_1700 : decode code 1700 = .ok (.aload_n 1, 1) := by decide +kernel
theorem d_L_law_1701 : decode code 1701 = .ok (.invokevirtual 237, 3) := by decide +kernel
theorem d_L_law_1704 : decode code 1704 = .ok (.aload_n 2, 1) := by decide +kernel
theorem d_L_law_1705 : decode code 1705 = .ok (.invokevirtual 240, 3) := by decide +kernel
theorem d_L_law_1708 : decode code 1708 = .ok (.if_icmp .eq 5, 3) := by decide +kernel
theorem d_L_law_1711 : decode code 1711 = .ok (.iconst 0, 1) := by decide +kernel
theorem d_L_law_1712 : decode code 1712 = .ok (.ireturn, 1) := by decide +kernel
theorem d_L_law_1713 : decode code 1713 = .ok (.iinc 3 5, 3) := by decide +kernel
theorem d_L_law_1716 : decode code 1716 = .ok (.goto (-1698), 3) := by decide +kernel
theorem d_L_law_1719 : decode code 1719 = .ok (.iconst 1, 1) := by decide +kernel
theorem d_L_law_1720 : decode code 1720 = .ok (.ireturn, 1) := by decide +kernel
