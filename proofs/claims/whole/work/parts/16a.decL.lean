theorem dL_0 : decode code 0 = .ok (.new 7, 3) := by decide +kernel
theorem dL_3 : decode code 3 = .ok (.dup, 1) := by decide +kernel
theorem dL_4 : decode code 4 = .ok (.invokespecial 9, 3) := by decide +kernel
theorem dL_7 : decode code 7 = .ok (.astore_n 1, 1) := by decide +kernel
theorem dL_8 : decode code 8 = .ok (.new 10, 3) := by decide +kernel
theorem dL_11 : decode code 11 = .ok (.dup, 1) := by decide +kernel
theorem dL_12 : decode code 12 = .ok (.invokespecial 12, 3) := by decide +kernel
theorem dL_15 : decode code 15 = .ok (.astore_n 2, 1) := by decide +kernel
theorem dL_16 : decode code 16 = .ok (.iconst 0, 1) := by decide +kernel
theorem dL_17 : decode code 17 = .ok (.istore_n 3, 1) := by decide +kernel
theorem dL_18 : decode code 18 = .ok (.iload_n 3, 1) := by decide +kernel
theorem dL_19 : decode code 19 = .ok (.aload_n 0, 1) := by decide +kernel
theorem dL_20 : decode code 20 = .ok (.arraylength, 1) := by decide +kernel
theorem dL_21 : decode code 21 = .ok (.iconst 5, 1) := by decide +kernel
theorem dL_22 : decode code 22 = .ok (.isub, 1) := by decide +kernel
theorem dL_23 : decode code 23 = .ok (.if_icmp .gt 1651, 3) := by decide +kernel
theorem dL_26 : decode code 26 = .ok (.aload_n 0, 1) := by decide +kernel
theorem dL_27 : decode code 27 = .ok (.iload_n 3, 1) := by decide +kernel
theorem dL_28 : decode code 28 = .ok (.iaload, 1) := by decide +kernel
theorem dL_29 : decode code 29 = .ok (.bipush 63, 2) := by decide +kernel
theorem dL_31 : decode code 31 = .ok (.iand, 1) := by decide +kernel
theorem dL_32 : decode code 32 = .ok (.tableswitch 1636 0 49 #[216, 269, 302, 345, 378, 411, 434, 447, 470, 533, 546, 559, 582, 605, 628, 651, 674, 687, 710, 733, 756, 779, 812, 835, 868, 901, 924, 947, 1000, 1013, 1036, 1049, 1072, 1085, 1118, 1141, 1174, 1217, 1230, 1273, 1316, 1359, 1402, 1445, 1488, 1521, 1564, 1587, 1610, 1623], 216) := by decide +kernel
theorem dL_248 : decode code 248 = .ok (.aload_n 1, 1) := by decide +kernel
theorem dL_249 : decode code 249 = .ok (.aload_n 0, 1) := by decide +kernel
theorem dL_250 : decode code 250 = .ok (.iload_n 3, 1) := by decide +kernel
theorem dL_251 : decode code 251 = .ok (.iconst 1, 1) := by decide +kernel
theorem dL_252 : decode code 252 = .ok (.iadd, 1) := by decide +kernel
theorem dL_253 : decode code 253 = .ok (.iaload, 1) := by decide +kernel
theorem dL_254 : decode code 254 = .ok (.aload_n 0, 1) := by decide +kernel
theorem dL_255 : decode code 255 = .ok (.iload_n 3, 1) := by decide +kernel
theorem dL_256 : decode code 256 = .ok (.iconst 2, 1) := by decide +kernel
theorem dL_257 : decode code 257 = .ok (.iadd, 1) := by decide +kernel
theorem dL_258 : decode code 258 = .ok (.iaload, 1) := by decide +kernel
theorem dL_259 : decode code 259 = .ok (.aload_n 0, 1) := by decide +kernel
theorem dL_260 : decode code 260 = .ok (.iload_n 3, 1) := by decide +kernel
theorem dL_261 : decode code 261 = .ok (.iconst 3, 1) := by decide +kernel
theorem dL_262 : decode code 262 = .ok (.iadd, 1) := by decide +kernel
theorem dL_263 : decode code 263 = .ok (.iaload, 1) := by decide +kernel
theorem dL_264 : decode code 264 = .ok (.aload_n 0, 1) := by decide +kernel
theorem dL_265 : decode code 265 = .ok (.iload_n 3, 1) := by decide +kernel
theorem dL_266 : decode code 266 = .ok (.iconst 4, 1) := by decide +kernel
theorem dL_267 : decode code 267 = .ok (.iadd, 1) := by decide +kernel
theorem dL_268 : decode code 268 = .ok (.iaload, 1) := by decide +kernel
theorem dL_269 : decode code 269 = .ok (.invokevirtual 13, 3) := by decide +kernel
theorem dL_272 : decode code 272 = .ok (.aload_n 2, 1) := by decide +kernel
theorem dL_273 : decode code 273 = .ok (.aload_n 0, 1) := by decide +kernel
theorem dL_274 : decode code 274 = .ok (.iload_n 3, 1) := by decide +kernel
theorem dL_275 : decode code 275 = .ok (.iconst 1, 1) := by decide +kernel
theorem dL_276 : decode code 276 = .ok (.iadd, 1) := by decide +kernel
theorem dL_277 : decode code 277 = .ok (.iaload, 1) := by decide +kernel
theorem dL_278 : decode code 278 = .ok (.aload_n 0, 1) := by decide +kernel
theorem dL_279 : decode code 279 = .ok (.iload_n 3, 1) := by decide +kernel
theorem dL_280 : decode code 280 = .ok (.iconst 2, 1) := by decide +kernel
theorem dL_281 : decode code 281 = .ok (.iadd, 1) := by decide +kernel
theorem dL_282 : decode code 282 = .ok (.iaload, 1) := by decide +kernel
theorem dL_283 : decode code 283 = .ok (.aload_n 0, 1) := by decide +kernel
theorem dL_284 : decode code 284 = .ok (.iload_n 3, 1) := by decide +kernel
theorem dL_285 : decode code 285 = .ok (.iconst 3, 1) := by decide +kernel
theorem dL_286 : decode code 286 = .ok (.iadd, 1) := by decide +kernel
theorem dL_287 : decode code 287 = .ok (.iaload, 1) := by decide +kernel
theorem dL_288 : decode code 288 = .ok (.aload_n 0, 1) := by decide +kernel
theorem dL_289 : decode code 289 = .ok (.iload_n 3, 1) := by decide +kernel
theorem dL_290 : decode code 290 = .ok (.iconst 4, 1) := by decide +kernel
theorem dL_291 : decode code 291 = .ok (.iadd, 1) := by decide +kernel
theorem dL_292 : decode code 292 = .ok (.iaload, 1) := by decide +kernel
theorem dL_293 : decode code 293 = .ok (.invokevirtual 17, 3) := by decide +kernel
theorem dL_296 : decode code 296 = .ok (.if_icmp .eq 1372, 3) := by decide +kernel
theorem dL_299 : decode code 299 = .ok (.iconst 0, 1) := by decide +kernel
theorem dL_300 : decode code 300 = .ok (.ireturn, 1) := by decide +kernel
theorem dL_301 : decode code 301 = .ok (.aload_n 1, 1) := by decide +kernel
theorem dL_302 : decode code 302 = .ok (.aload_n 0, 1) := by decide +kernel
theorem dL_303 : decode code 303 = .ok (.iload_n 3, 1) := by decide +kernel
theorem dL_304 : decode code 304 = .ok (.iconst 1, 1) := by decide +kernel
theorem dL_305 : decode code 305 = .ok (.iadd, 1) := by decide +kernel
theorem dL_306 : decode code 306 = .ok (.iaload, 1) := by decide +kernel
theorem dL_307 : decode code 307 = .ok (.aload_n 0, 1) := by decide +kernel
theorem dL_308 : decode code 308 = .ok (.iload_n 3, 1) := by decide +kernel
theorem dL_309 : decode code 309 = .ok (.iconst 2, 1) := by decide +kernel
theorem dL_310 : decode code 310 = .ok (.iadd, 1) := by decide +kernel
theorem dL_311 : decode code 311 = .ok (.iaload, 1) := by decide +kernel
theorem dL_312 : decode code 312 = .ok (.invokevirtual 18, 3) := by decide +kernel
theorem dL_315 : decode code 315 = .ok (.aload_n 2, 1) := by decide +kernel
theorem dL_316 : decode code 316 = .ok (.aload_n 0, 1) := by decide +kernel
theorem dL_317 : decode code 317 = .ok (.iload_n 3, 1) := by decide +kernel
theorem dL_318 : decode code 318 = .ok (.iconst 1, 1) := by decide +kernel
theorem dL_319 : decode code 319 = .ok (.iadd, 1) := by decide +kernel
theorem dL_320 : decode code 320 = .ok (.iaload, 1) := by decide +kernel
theorem dL_321 : decode code 321 = .ok (.aload_n 0, 1) := by decide +kernel
theorem dL_322 : decode code 322 = .ok (.iload_n 3, 1) := by decide +kernel
theorem dL_323 : decode code 323 = .ok (.iconst 2, 1) := by decide +kernel
theorem dL_324 : decode code 324 = .ok (.iadd, 1) := by decide +kernel
theorem dL_325 : decode code 325 = .ok (.iaload, 1) := by decide +kernel
theorem dL_326 : decode code 326 = .ok (.invokevirtual 22, 3) := by decide +kernel
theorem dL_329 : decode code 329 = .ok (.if_icmp .eq 1339, 3) := by decide +kernel
theorem dL_332 : decode code 332 = .ok (.iconst 0, 1) := by decide +kernel
theorem dL_333 : decode code 333 = .ok (.ireturn, 1) := by decide +kernel
theorem dL_334 : decode code 334 = .ok (.aload_n 1, 1) := by decide +kernel
theorem dL_335 : decode code 335 = .ok (.aload_n 0, 1) := by decide +kernel
theorem dL_336 : decode code 336 = .ok (.iload_n 3, 1) := by decide +kernel
theorem dL_337 : decode code 337 = .ok (.iconst 1, 1) := by decide +kernel
theorem dL_338 : decode code 338 = .ok (.iadd, 1) := by decide +kernel
theorem dL_339 : decode code 339 = .ok (.iaload, 1) := by decide +kernel
theorem dL_340 : decode code 340 = .ok (.aload_n 0, 1) := by decide +kernel
theorem dL_341 : decode code 341 = .ok (.iload_n 3, 1) := by decide +kernel
theorem dL_342 : decode code 342 = .ok (.iconst 2, 1) := by decide +kernel
theorem dL_343 : decode code 343 = .ok (.iadd, 1) := by decide +kernel
theorem dL_344 : decode code 344 = .ok (.iaload, 1) := by decide +kernel
theorem dL_345 : decode code 345 = .ok (.aload_n 0, 1) := by decide +kernel
theorem dL_346 : decode code 346 = .ok (.iload_n 3, 1) := by decide +kernel
theorem dL_347 : decode code 347 = .ok (.iconst 3, 1) := by decide +kernel
theorem dL_348 : decode code 348 = .ok (.iadd, 1) := by decide +kernel
theorem dL_349 : decode code 349 = .ok (.iaload, 1) := by decide +kernel
theorem dL_350 : decode code 350 = .ok (.invokevirtual 23, 3) := by decide +kernel
theorem dL_353 : decode code 353 = .ok (.aload_n 2, 1) := by decide +kernel
theorem dL_354 : decode code 354 = .ok (.aload_n 0, 1) := by decide +kernel
theorem dL_355 : decode code 355 = .ok (.iload_n 3, 1) := by decide +kernel
theorem dL_356 : decode code 356 = .ok (.iconst 1, 1) := by decide +kernel
theorem dL_357 : decode code 357 = .ok (.iadd, 1) := by decide +kernel
theorem dL_358 : decode code 358 = .ok (.iaload, 1) := by decide +kernel
theorem dL_359 : decode code 359 = .ok (.aload_n 0, 1) := by decide +kernel
theorem dL_360 : decode code 360 = .ok (.iload_n 3, 1) := by decide +kernel
theorem dL_361 : decode code 361 = .ok (.iconst 2, 1) := by decide +kernel
theorem dL_362 : decode code 362 = .ok (.iadd, 1) := by decide +kernel
theorem dL_363 : decode code 363 = .ok (.iaload, 1) := by decide +kernel
theorem dL_364 : decode code 364 = .ok (.aload_n 0, 1) := by decide +kernel
theorem dL_365 : decode code 365 = .ok (.iload_n 3, 1) := by decide +kernel
theorem dL_366 : decode code 366 = .ok (.iconst 3, 1) := by decide +kernel
theorem dL_367 : decode code 367 = .ok (.iadd, 1) := by decide +kernel
theorem dL_368 : decode code 368 = .ok (.iaload, 1) := by decide +kernel
theorem dL_369 : decode code 369 = .ok (.invokevirtual 27, 3) := by decide +kernel
theorem dL_372 : decode code 372 = .ok (.if_icmp .eq 1296, 3) := by decide +kernel
theorem dL_375 : decode code 375 = .ok (.iconst 0, 1) := by decide +kernel
theorem dL_376 : decode code 376 = .ok (.ireturn, 1) := by decide +kernel
theorem dL_377 : decode code 377 = .ok (.aload_n 1, 1) := by decide +kernel
theorem dL_378 : decode code 378 = .ok (.aload_n 0, 1) := by decide +kernel
theorem dL_379 : decode code 379 = .ok (.iload_n 3, 1) := by decide +kernel
theorem dL_380 : decode code 380 = .ok (.iconst 1, 1) := by decide +kernel
theorem dL_381 : decode code 381 = .ok (.iadd, 1) := by decide +kernel
theorem dL_382 : decode code 382 = .ok (.iaload, 1) := by decide +kernel
theorem dL_383 : decode code 383 = .ok (.aload_n 0, 1) := by decide +kernel
theorem dL_384 : decode code 384 = .ok (.iload_n 3, 1) := by decide +kernel
theorem dL_385 : decode code 385 = .ok (.iconst 2, 1) := by decide +kernel
theorem dL_386 : decode code 386 = .ok (.iadd, 1) := by decide +kernel
theorem dL_387 : decode code 387 = .ok (.iaload, 1) := by decide +kernel
theorem dL_388 : decode code 388 = .ok (.invokevirtual 28, 3) := by decide +kernel
theorem dL_391 : decode code 391 = .ok (.aload_n 2, 1) := by decide +kernel
theorem dL_392 : decode code 392 = .ok (.aload_n 0, 1) := by decide +kernel
theorem dL_393 : decode code 393 = .ok (.iload_n 3, 1) := by decide +kernel
theorem dL_394 : decode code 394 = .ok (.iconst 1, 1) := by decide +kernel
theorem dL_395 : decode code 395 = .ok (.iadd, 1) := by decide +kernel
theorem dL_396 : decode code 396 = .ok (.iaload, 1) := by decide +kernel
theorem dL_397 : decode code 397 = .ok (.aload_n 0, 1) := by decide +kernel
theorem dL_398 : decode code 398 = .ok (.iload_n 3, 1) := by decide +kernel
theorem dL_399 : decode code 399 = .ok (.iconst 2, 1) := by decide +kernel
theorem dL_400 : decode code 400 = .ok (.iadd, 1) := by decide +kernel
theorem dL_401 : decode code 401 = .ok (.iaload, 1) := by decide +kernel
theorem dL_402 : decode code 402 = .ok (.invokevirtual 31, 3) := by decide +kernel
theorem dL_405 : decode code 405 = .ok (.if_icmp .eq 1263, 3) := by decide +kernel
theorem dL_408 : decode code 408 = .ok (.iconst 0, 1) := by decide +kernel
theorem dL_409 : decode code 409 = .ok (.ireturn, 1) := by decide +kernel
theorem dL_410 : decode code 410 = .ok (.aload_n 1, 1) := by decide +kernel
theorem dL_411 : decode code 411 = .ok (.aload_n 0, 1) := by decide +kernel
theorem dL_412 : decode code 412 = .ok (.iload_n 3, 1) := by decide +kernel
theorem dL_413 : decode code 413 = .ok (.iconst 1, 1) := by decide +kernel
theorem dL_414 : decode code 414 = .ok (.iadd, 1) := by decide +kernel
theorem dL_415 : decode code 415 = .ok (.iaload, 1) := by decide +kernel
theorem dL_416 : decode code 416 = .ok (.aload_n 0, 1) := by decide +kernel
theorem dL_417 : decode code 417 = .ok (.iload_n 3, 1) := by decide +kernel
theorem dL_418 : decode code 418 = .ok (.iconst 2, 1) := by decide +kernel
theorem dL_419 : decode code 419 = .ok (.iadd, 1) := by decide +kernel
theorem dL_420 : decode code 420 = .ok (.iaload, 1) := by decide +kernel
theorem dL_421 : decode code 421 = .ok (.invokevirtual 32, 3) := by decide +kernel
theorem dL_424 : decode code 424 = .ok (.aload_n 2, 1) := by decide +kernel
theorem dL_425 : decode code 425 = .ok (.aload_n 0, 1) := by decide +kernel
theorem dL_426 : decode code 426 = .ok (.iload_n 3, 1) := by decide +kernel
theorem dL_427 : decode code 427 = .ok (.iconst 1, 1) := by decide +kernel
theorem dL_428 : decode code 428 = .ok (.iadd, 1) := by decide +kernel
theorem dL_429 : decode code 429 = .ok (.iaload, 1) := by decide +kernel
theorem dL_430 : decode code 430 = .ok (.aload_n 0, 1) := by decide +kernel
theorem dL_431 : decode code 431 = .ok (.iload_n 3, 1) := by decide +kernel
theorem dL_432 : decode code 432 = .ok (.iconst 2, 1) := by decide +kernel
theorem dL_433 : decode code 433 = .ok (.iadd, 1) := by decide +kernel
theorem dL_434 : decode code 434 = .ok (.iaload, 1) := by decide +kernel
theorem dL_435 : decode code 435 = .ok (.invokevirtual 35, 3) := by decide +kernel
theorem dL_438 : decode code 438 = .ok (.if_icmp .eq 1230, 3) := by decide +kernel
theorem dL_441 : decode code 441 = .ok (.iconst 0, 1) := by decide +kernel
theorem dL_442 : decode code 442 = .ok (.ireturn, 1) := by decide +kernel
theorem dL_443 : decode code 443 = .ok (.aload_n 1, 1) := by decide +kernel
theorem dL_444 : decode code 444 = .ok (.aload_n 0, 1) := by decide +kernel
theorem dL_445 : decode code 445 = .ok (.iload_n 3, 1) := by decide +kernel
theorem dL_446 : decode code 446 = .ok (.iconst 1, 1) := by decide +kernel
theorem dL_447 : decode code 447 = .ok (.iadd, 1) := by decide +kernel
theorem dL_448 : decode code 448 = .ok (.iaload, 1) := by decide +kernel
theorem dL_449 : decode code 449 = .ok (.invokevirtual 36, 3) := by decide +kernel
theorem dL_452 : decode code 452 = .ok (.aload_n 2, 1) := by decide +kernel
theorem dL_453 : decode code 453 = .ok (.aload_n 0, 1) := by decide +kernel
theorem dL_454 : decode code 454 = .ok (.iload_n 3, 1) := by decide +kernel
theorem dL_455 : decode code 455 = .ok (.iconst 1, 1) := by decide +kernel
theorem dL_456 : decode code 456 = .ok (.iadd, 1) := by decide +kernel
theorem dL_457 : decode code 457 = .ok (.iaload, 1) := by decide +kernel
theorem dL_458 : decode code 458 = .ok (.invokevirtual 40, 3) := by decide +kernel
theorem dL_461 : decode code 461 = .ok (.if_icmp .eq 1207, 3) := by decide +kernel
theorem dL_464 : decode code 464 = .ok (.iconst 0, 1) := by decide +kernel
theorem dL_465 : decode code 465 = .ok (.ireturn, 1) := by decide +kernel
theorem dL_466 : decode code 466 = .ok (.aload_n 1, 1) := by decide +kernel
theorem dL_467 : decode code 467 = .ok (.invokevirtual 41, 3) := by decide +kernel
theorem dL_470 : decode code 470 = .ok (.aload_n 2, 1) := by decide +kernel
theorem dL_471 : decode code 471 = .ok (.invokevirtual 45, 3) := by decide +kernel
theorem dL_474 : decode code 474 = .ok (.if_icmp .eq 1194, 3) := by decide +kernel
theorem dL_477 : decode code 477 = .ok (.iconst 0, 1) := by decide +kernel
theorem dL_478 : decode code 478 = .ok (.ireturn, 1) := by decide +kernel
theorem dL_479 : decode code 479 = .ok (.aload_n 1, 1) := by decide +kernel
theorem dL_480 : decode code 480 = .ok (.aload_n 0, 1) := by decide +kernel
theorem dL_481 : decode code 481 = .ok (.iload_n 3, 1) := by decide +kernel
theorem dL_482 : decode code 482 = .ok (.iconst 1, 1) := by decide +kernel
theorem dL_483 : decode code 483 = .ok (.iadd, 1) := by decide +kernel
theorem dL_484 : decode code 484 = .ok (.iaload, 1) := by decide +kernel
theorem dL_485 : decode code 485 = .ok (.invokevirtual 46, 3) := by decide +kernel
theorem dL_488 : decode code 488 = .ok (.aload_n 2, 1) := by decide +kernel
theorem dL_489 : decode code 489 = .ok (.aload_n 0, 1) := by decide +kernel
theorem dL_490 : decode code 490 = .ok (.iload_n 3, 1) := by decide +kernel
theorem dL_491 : decode code 491 = .ok (.iconst 1, 1) := by decide +kernel
theorem dL_492 : decode code 492 = .ok (.iadd, 1) := by decide +kernel
theorem dL_493 : decode code 493 = .ok (.iaload, 1) := by decide +kernel
theorem dL_494 : decode code 494 = .ok (.invokevirtual 49, 3) := by decide +kernel
theorem dL_497 : decode code 497 = .ok (.if_icmp .eq 1171, 3) := by decide +kernel
theorem dL_500 : decode code 500 = .ok (.iconst 0, 1) := by decide +kernel
theorem dL_501 : decode code 501 = .ok (.ireturn, 1) := by decide +kernel
theorem dL_502 : decode code 502 = .ok (.aload_n 1, 1) := by decide +kernel
theorem dL_503 : decode code 503 = .ok (.aload_n 0, 1) := by decide +kernel
theorem dL_504 : decode code 504 = .ok (.iload_n 3, 1) := by decide +kernel
theorem dL_505 : decode code 505 = .ok (.iconst 1, 1) := by decide +kernel
theorem dL_506 : decode code 506 = .ok (.iadd, 1) := by decide +kernel
theorem dL_507 : decode code 507 = .ok (.iaload, 1) := by decide +kernel
theorem dL_508 : decode code 508 = .ok (.i2l, 1) := by decide +kernel
theorem dL_509 : decode code 509 = .ok (.bipush 32, 2) := by decide +kernel
theorem dL_511 : decode code 511 = .ok (.lshl, 1) := by decide +kernel
theorem dL_512 : decode code 512 = .ok (.aload_n 0, 1) := by decide +kernel
theorem dL_513 : decode code 513 = .ok (.iload_n 3, 1) := by decide +kernel
theorem dL_514 : decode code 514 = .ok (.iconst 2, 1) := by decide +kernel
theorem dL_515 : decode code 515 = .ok (.iadd, 1) := by decide +kernel
theorem dL_516 : decode code 516 = .ok (.iaload, 1) := by decide +kernel
theorem dL_517 : decode code 517 = .ok (.i2l, 1) := by decide +kernel
theorem dL_518 : decode code 518 = .ok (.ldc2_w 50, 3) := by decide +kernel
theorem dL_521 : decode code 521 = .ok (.land, 1) := by decide +kernel
theorem dL_522 : decode code 522 = .ok (.lor, 1) := by decide +kernel
theorem dL_523 : decode code 523 = .ok (.aload_n 0, 1) := by decide +kernel
theorem dL_524 : decode code 524 = .ok (.iload_n 3, 1) := by decide +kernel
theorem dL_525 : decode code 525 = .ok (.iconst 3, 1) := by decide +kernel
theorem dL_526 : decode code 526 = .ok (.iadd, 1) := by decide +kernel
theorem dL_527 : decode code 527 = .ok (.iaload, 1) := by decide +kernel
theorem dL_528 : decode code 528 = .ok (.invokevirtual 52, 3) := by decide +kernel
theorem dL_531 : decode code 531 = .ok (.aload_n 2, 1) := by decide +kernel
theorem dL_532 : decode code 532 = .ok (.aload_n 0, 1) := by decide +kernel
theorem dL_533 : decode code 533 = .ok (.iload_n 3, 1) := by decide +kernel
theorem dL_534 : decode code 534 = .ok (.iconst 1, 1) := by decide +kernel
theorem dL_535 : decode code 535 = .ok (.iadd, 1) := by decide +kernel
theorem dL_536 : decode code 536 = .ok (.iaload, 1) := by decide +kernel
theorem dL_537 : decode code 537 = .ok (.i2l, 1) := by decide +kernel
theorem dL_538 : decode code 538 = .ok (.bipush 32, 2) := by decide +kernel
theorem dL_540 : decode code 540 = .ok (.lshl, 1) := by decide +kernel
theorem dL_541 : decode code 541 = .ok (.aload_n 0, 1) := by decide +kernel
theorem dL_542 : decode code 542 = .ok (.iload_n 3, 1) := by decide +kernel
theorem dL_543 : decode code 543 = .ok (.iconst 2, 1) := by decide +kernel
theorem dL_544 : decode code 544 = .ok (.iadd, 1) := by decide +kernel
theorem dL_545 : decode code 545 = .ok (.iaload, 1) := by decide +kernel
theorem dL_546 : decode code 546 = .ok (.i2l, 1) := by decide +kernel
theorem dL_547 : decode code 547 = .ok (.ldc2_w 50, 3) := by decide +kernel
theorem dL_550 : decode code 550 = .ok (.land, 1) := by decide +kernel
theorem dL_551 : decode code 551 = .ok (.lor, 1) := by decide +kernel
theorem dL_552 : decode code 552 = .ok (.aload_n 0, 1) := by decide +kernel
theorem dL_553 : decode code 553 = .ok (.iload_n 3, 1) := by decide +kernel
theorem dL_554 : decode code 554 = .ok (.iconst 3, 1) := by decide +kernel
theorem dL_555 : decode code 555 = .ok (.iadd, 1) := by decide +kernel
theorem dL_556 : decode code 556 = .ok (.iaload, 1) := by decide +kernel
theorem dL_557 : decode code 557 = .ok (.invokevirtual 56, 3) := by decide +kernel
theorem dL_560 : decode code 560 = .ok (.if_icmp .eq 1108, 3) := by decide +kernel
theorem dL_563 : decode code 563 = .ok (.iconst 0, 1) := by decide +kernel
theorem dL_564 : decode code 564 = .ok (.ireturn, 1) := by decide +kernel
theorem dL_565 : decode code 565 = .ok (.aload_n 1, 1) := by decide +kernel
theorem dL_566 : decode code 566 = .ok (.invokevirtual 57, 3) := by decide +kernel
theorem dL_569 : decode code 569 = .ok (.aload_n 2, 1) := by decide +kernel
theorem dL_570 : decode code 570 = .ok (.invokevirtual 60, 3) := by decide +kernel
theorem dL_573 : decode code 573 = .ok (.if_icmp .eq 1095, 3) := by decide +kernel
theorem dL_576 : decode code 576 = .ok (.iconst 0, 1) := by decide +kernel
theorem dL_577 : decode code 577 = .ok (.ireturn, 1) := by decide +kernel
theorem dL_578 : decode code 578 = .ok (.aload_n 1, 1) := by decide +kernel
theorem dL_579 : decode code 579 = .ok (.invokevirtual 61, 3) := by decide +kernel
theorem dL_582 : decode code 582 = .ok (.aload_n 2, 1) := by decide +kernel
theorem dL_583 : decode code 583 = .ok (.invokevirtual 64, 3) := by decide +kernel
theorem dL_586 : decode code 586 = .ok (.if_icmp .eq 1082, 3) := by decide +kernel
theorem dL_589 : decode code 589 = .ok (.iconst 0, 1) := by decide +kernel
theorem dL_590 : decode code 590 = .ok (.ireturn, 1) := by decide +kernel
theorem dL_591 : decode code 591 = .ok (.aload_n 1, 1) := by decide +kernel
theorem dL_592 : decode code 592 = .ok (.aload_n 0, 1) := by decide +kernel
theorem dL_593 : decode code 593 = .ok (.iload_n 3, 1) := by decide +kernel
theorem dL_594 : decode code 594 = .ok (.iconst 1, 1) := by decide +kernel
theorem dL_595 : decode code 595 = .ok (.iadd, 1) := by decide +kernel
theorem dL_596 : decode code 596 = .ok (.iaload, 1) := by decide +kernel
theorem dL_597 : decode code 597 = .ok (.invokevirtual 65, 3) := by decide +kernel
theorem dL_600 : decode code 600 = .ok (.aload_n 2, 1) := by decide +kernel
theorem dL_601 : decode code 601 = .ok (.aload_n 0, 1) := by decide +kernel
theorem dL_602 : decode code 602 = .ok (.iload_n 3, 1) := by decide +kernel
theorem dL_603 : decode code 603 = .ok (.iconst 1, 1) := by decide +kernel
theorem dL_604 : decode code 604 = .ok (.iadd, 1) := by decide +kernel
theorem dL_605 : decode code 605 = .ok (.iaload, 1) := by decide +kernel
theorem dL_606 : decode code 606 = .ok (.invokevirtual 68, 3) := by decide +kernel
theorem dL_609 : decode code 609 = .ok (.if_icmp .eq 1059, 3) := by decide +kernel
theorem dL_612 : decode code 612 = .ok (.iconst 0, 1) := by decide +kernel
theorem dL_613 : decode code 613 = .ok (.ireturn, 1) := by decide +kernel
theorem dL_614 : decode code 614 = .ok (.aload_n 1, 1) := by decide +kernel
theorem dL_615 : decode code 615 = .ok (.aload_n 0, 1) := by decide +kernel
theorem dL_616 : decode code 616 = .ok (.iload_n 3, 1) := by decide +kernel
theorem dL_617 : decode code 617 = .ok (.iconst 1, 1) := by decide +kernel
theorem dL_618 : decode code 618 = .ok (.iadd, 1) := by decide +kernel
theorem dL_619 : decode code 619 = .ok (.iaload, 1) := by decide +kernel
theorem dL_620 : decode code 620 = .ok (.invokevirtual 69, 3) := by decide +kernel
theorem dL_623 : decode code 623 = .ok (.aload_n 2, 1) := by decide +kernel
theorem dL_624 : decode code 624 = .ok (.aload_n 0, 1) := by decide +kernel
theorem dL_625 : decode code 625 = .ok (.iload_n 3, 1) := by decide +kernel
theorem dL_626 : decode code 626 = .ok (.iconst 1, 1) := by decide +kernel
theorem dL_627 : decode code 627 = .ok (.iadd, 1) := by decide +kernel
theorem dL_628 : decode code 628 = .ok (.iaload, 1) := by decide +kernel
theorem dL_629 : decode code 629 = .ok (.invokevirtual 72, 3) := by decide +kernel
theorem dL_632 : decode code 632 = .ok (.if_icmp .eq 1036, 3) := by decide +kernel
theorem dL_635 : decode code 635 = .ok (.iconst 0, 1) := by decide +kernel
theorem dL_636 : decode code 636 = .ok (.ireturn, 1) := by decide +kernel
theorem dL_637 : decode code 637 = .ok (.aload_n 1, 1) := by decide +kernel
theorem dL_638 : decode code 638 = .ok (.aload_n 0, 1) := by decide +kernel
theorem dL_639 : decode code 639 = .ok (.iload_n 3, 1) := by decide +kernel
theorem dL_640 : decode code 640 = .ok (.iconst 1, 1) := by decide +kernel
theorem dL_641 : decode code 641 = .ok (.iadd, 1) := by decide +kernel
theorem dL_642 : decode code 642 = .ok (.iaload, 1) := by decide +kernel
theorem dL_643 : decode code 643 = .ok (.invokevirtual 73, 3) := by decide +kernel
theorem dL_646 : decode code 646 = .ok (.aload_n 2, 1) := by decide +kernel
theorem dL_647 : decode code 647 = .ok (.aload_n 0, 1) := by decide +kernel
theorem dL_648 : decode code 648 = .ok (.iload_n 3, 1) := by decide +kernel
theorem dL_649 : decode code 649 = .ok (.iconst 1, 1) := by decide +kernel
theorem dL_650 : decode code 650 = .ok (.iadd, 1) := by decide +kernel
theorem dL_651 : decode code 651 = .ok (.iaload, 1) := by decide +kernel
theorem dL_652 : decode code 652 = .ok (.invokevirtual 76, 3) := by decide +kernel
theorem dL_655 : decode code 655 = .ok (.if_icmp .eq 1013, 3) := by decide +kernel
theorem dL_658 : decode code 658 = .ok (.iconst 0, 1) := by decide +kernel
theorem dL_659 : decode code 659 = .ok (.ireturn, 1) := by decide +kernel
theorem dL_660 : decode code 660 = .ok (.aload_n 1, 1) := by decide +kernel
theorem dL_661 : decode code 661 = .ok (.aload_n 0, 1) := by decide +kernel
theorem dL_662 : decode code 662 = .ok (.iload_n 3, 1) := by decide +kernel
theorem dL_663 : decode code 663 = .ok (.iconst 1, 1) := by decide +kernel
theorem dL_664 : decode code 664 = .ok (.iadd, 1) := by decide +kernel
theorem dL_665 : decode code 665 = .ok (.iaload, 1) := by decide +kernel
theorem dL_666 : decode code 666 = .ok (.invokevirtual 77, 3) := by decide +kernel
theorem dL_669 : decode code 669 = .ok (.aload_n 2, 1) := by decide +kernel
theorem dL_670 : decode code 670 = .ok (.aload_n 0, 1) := by decide +kernel
theorem dL_671 : decode code 671 = .ok (.iload_n 3, 1) := by decide +kernel
theorem dL_672 : decode code 672 = .ok (.iconst 1, 1) := by decide +kernel
theorem dL_673 : decode code 673 = .ok (.iadd, 1) := by decide +kernel
theorem dL_674 : decode code 674 = .ok (.iaload, 1) := by decide +kernel
theorem dL_675 : decode code 675 = .ok (.invokevirtual 80, 3) := by decide +kernel
theorem dL_678 : decode code 678 = .ok (.if_icmp .eq 990, 3) := by decide +kernel
theorem dL_681 : decode code 681 = .ok (.iconst 0, 1) := by decide +kernel
theorem dL_682 : decode code 682 = .ok (.ireturn, 1) := by decide +kernel
theorem dL_683 : decode code 683 = .ok (.aload_n 1, 1) := by decide +kernel
theorem dL_684 : decode code 684 = .ok (.aload_n 0, 1) := by decide +kernel
theorem dL_685 : decode code 685 = .ok (.iload_n 3, 1) := by decide +kernel
theorem dL_686 : decode code 686 = .ok (.iconst 1, 1) := by decide +kernel
theorem dL_687 : decode code 687 = .ok (.iadd, 1) := by decide +kernel
theorem dL_688 : decode code 688 = .ok (.iaload, 1) := by decide +kernel
theorem dL_689 : decode code 689 = .ok (.invokevirtual 81, 3) := by decide +kernel
theorem dL_692 : decode code 692 = .ok (.aload_n 2, 1) := by decide +kernel
theorem dL_693 : decode code 693 = .ok (.aload_n 0, 1) := by decide +kernel
theorem dL_694 : decode code 694 = .ok (.iload_n 3, 1) := by decide +kernel
theorem dL_695 : decode code 695 = .ok (.iconst 1, 1) := by decide +kernel
theorem dL_696 : decode code 696 = .ok (.iadd, 1) := by decide +kernel
theorem dL_697 : decode code 697 = .ok (.iaload, 1) := by decide +kernel
theorem dL_698 : decode code 698 = .ok (.invokevirtual 84, 3) := by decide +kernel
theorem dL_701 : decode code 701 = .ok (.if_icmp .eq 967, 3) := by decide +kernel
theorem dL_704 : decode code 704 = .ok (.iconst 0, 1) := by decide +kernel
theorem dL_705 : decode code 705 = .ok (.ireturn, 1) := by decide +kernel
theorem dL_706 : decode code 706 = .ok (.aload_n 1, 1) := by decide +kernel
theorem dL_707 : decode code 707 = .ok (.invokevirtual 85, 3) := by decide +kernel
theorem dL_710 : decode code 710 = .ok (.aload_n 2, 1) := by decide +kernel
theorem dL_711 : decode code 711 = .ok (.invokevirtual 88, 3) := by decide +kernel
theorem dL_714 : decode code 714 = .ok (.if_icmp .eq 954, 3) := by decide +kernel
theorem dL_717 : decode code 717 = .ok (.iconst 0, 1) := by decide +kernel
theorem dL_718 : decode code 718 = .ok (.ireturn, 1) := by decide +kernel
theorem dL_719 : decode code 719 = .ok (.aload_n 1, 1) := by decide +kernel
theorem dL_720 : decode code 720 = .ok (.aload_n 0, 1) := by decide +kernel
theorem dL_721 : decode code 721 = .ok (.iload_n 3, 1) := by decide +kernel
theorem dL_722 : decode code 722 = .ok (.iconst 1, 1) := by decide +kernel
theorem dL_723 : decode code 723 = .ok (.iadd, 1) := by decide +kernel
theorem dL_724 : decode code 724 = .ok (.iaload, 1) := by decide +kernel
theorem dL_725 : decode code 725 = .ok (.invokevirtual 89, 3) := by decide +kernel
theorem dL_728 : decode code 728 = .ok (.aload_n 2, 1) := by decide +kernel
theorem dL_729 : decode code 729 = .ok (.aload_n 0, 1) := by decide +kernel
theorem dL_730 : decode code 730 = .ok (.iload_n 3, 1) := by decide +kernel
theorem dL_731 : decode code 731 = .ok (.iconst 1, 1) := by decide +kernel
theorem dL_732 : decode code 732 = .ok (.iadd, 1) := by decide +kernel
theorem dL_733 : decode code 733 = .ok (.iaload, 1) := by decide +kernel
theorem dL_734 : decode code 734 = .ok (.invokevirtual 92, 3) := by decide +kernel
theorem dL_737 : decode code 737 = .ok (.if_icmp .eq 931, 3) := by decide +kernel
theorem dL_740 : decode code 740 = .ok (.iconst 0, 1) := by decide +kernel
theorem dL_741 : decode code 741 = .ok (.ireturn, 1) := by decide +kernel
theorem dL_742 : decode code 742 = .ok (.aload_n 1, 1) := by decide +kernel
theorem dL_743 : decode code 743 = .ok (.aload_n 0, 1) := by decide +kernel
theorem dL_744 : decode code 744 = .ok (.iload_n 3, 1) := by decide +kernel
theorem dL_745 : decode code 745 = .ok (.iconst 1, 1) := by decide +kernel
theorem dL_746 : decode code 746 = .ok (.iadd, 1) := by decide +kernel
theorem dL_747 : decode code 747 = .ok (.iaload, 1) := by decide +kernel
theorem dL_748 : decode code 748 = .ok (.invokevirtual 93, 3) := by decide +kernel
theorem dL_751 : decode code 751 = .ok (.aload_n 2, 1) := by decide +kernel
theorem dL_752 : decode code 752 = .ok (.aload_n 0, 1) := by decide +kernel
theorem dL_753 : decode code 753 = .ok (.iload_n 3, 1) := by decide +kernel
theorem dL_754 : decode code 754 = .ok (.iconst 1, 1) := by decide +kernel
theorem dL_755 : decode code 755 = .ok (.iadd, 1) := by decide +kernel
theorem dL_756 : decode code 756 = .ok (.iaload, 1) := by decide +kernel
theorem dL_757 : decode code 757 = .ok (.invokevirtual 96, 3) := by decide +kernel
theorem dL_760 : decode code 760 = .ok (.if_icmp .eq 908, 3) := by decide +kernel
theorem dL_763 : decode code 763 = .ok (.iconst 0, 1) := by decide +kernel
theorem dL_764 : decode code 764 = .ok (.ireturn, 1) := by decide +kernel
theorem dL_765 : decode code 765 = .ok (.aload_n 1, 1) := by decide +kernel
theorem dL_766 : decode code 766 = .ok (.aload_n 0, 1) := by decide +kernel
theorem dL_767 : decode code 767 = .ok (.iload_n 3, 1) := by decide +kernel
theorem dL_768 : decode code 768 = .ok (.iconst 1, 1) := by decide +kernel
theorem dL_769 : decode code 769 = .ok (.iadd, 1) := by decide +kernel
theorem dL_770 : decode code 770 = .ok (.iaload, 1) := by decide +kernel
theorem dL_771 : decode code 771 = .ok (.invokevirtual 97, 3) := by decide +kernel
theorem dL_774 : decode code 774 = .ok (.aload_n 2, 1) := by decide +kernel
theorem dL_775 : decode code 775 = .ok (.aload_n 0, 1) := by decide +kernel
theorem dL_776 : decode code 776 = .ok (.iload_n 3, 1) := by decide +kernel
theorem dL_777 : decode code 777 = .ok (.iconst 1, 1) := by decide +kernel
theorem dL_778 : decode code 778 = .ok (.iadd, 1) := by decide +kernel
theorem dL_779 : decode code 779 = .ok (.iaload, 1) := by decide +kernel
theorem dL_780 : decode code 780 = .ok (.invokevirtual 100, 3) := by decide +kernel
theorem dL_783 : decode code 783 = .ok (.if_icmp .eq 885, 3) := by decide +kernel
theorem dL_786 : decode code 786 = .ok (.iconst 0, 1) := by decide +kernel
theorem dL_787 : decode code 787 = .ok (.ireturn, 1) := by decide +kernel
theorem dL_788 : decode code 788 = .ok (.aload_n 1, 1) := by decide +kernel
theorem dL_789 : decode code 789 = .ok (.aload_n 0, 1) := by decide +kernel
theorem dL_790 : decode code 790 = .ok (.iload_n 3, 1) := by decide +kernel
theorem dL_791 : decode code 791 = .ok (.iconst 1, 1) := by decide +kernel
theorem dL_792 : decode code 792 = .ok (.iadd, 1) := by decide +kernel
theorem dL_793 : decode code 793 = .ok (.iaload, 1) := by decide +kernel
theorem dL_794 : decode code 794 = .ok (.invokevirtual 101, 3) := by decide +kernel
theorem dL_797 : decode code 797 = .ok (.aload_n 2, 1) := by decide +kernel
theorem dL_798 : decode code 798 = .ok (.aload_n 0, 1) := by decide +kernel
theorem dL_799 : decode code 799 = .ok (.iload_n 3, 1) := by decide +kernel
theorem dL_800 : decode code 800 = .ok (.iconst 1, 1) := by decide +kernel
theorem dL_801 : decode code 801 = .ok (.iadd, 1) := by decide +kernel
theorem dL_802 : decode code 802 = .ok (.iaload, 1) := by decide +kernel
theorem dL_803 : decode code 803 = .ok (.invokevirtual 104, 3) := by decide +kernel
theorem dL_806 : decode code 806 = .ok (.if_icmp .eq 862, 3) := by decide +kernel
theorem dL_809 : decode code 809 = .ok (.iconst 0, 1) := by decide +kernel
theorem dL_810 : decode code 810 = .ok (.ireturn, 1) := by decide +kernel
theorem dL_811 : decode code 811 = .ok (.aload_n 1, 1) := by decide +kernel
theorem dL_812 : decode code 812 = .ok (.aload_n 0, 1) := by decide +kernel
theorem dL_813 : decode code 813 = .ok (.iload_n 3, 1) := by decide +kernel
theorem dL_814 : decode code 814 = .ok (.iconst 1, 1) := by decide +kernel
theorem dL_815 : decode code 815 = .ok (.iadd, 1) := by decide +kernel
theorem dL_816 : decode code 816 = .ok (.iaload, 1) := by decide +kernel
theorem dL_817 : decode code 817 = .ok (.aload_n 0, 1) := by decide +kernel
theorem dL_818 : decode code 818 = .ok (.iload_n 3, 1) := by decide +kernel
theorem dL_819 : decode code 819 = .ok (.iconst 2, 1) := by decide +kernel
theorem dL_820 : decode code 820 = .ok (.iadd, 1) := by decide +kernel
theorem dL_821 : decode code 821 = .ok (.iaload, 1) := by decide +kernel
theorem dL_822 : decode code 822 = .ok (.invokevirtual 105, 3) := by decide +kernel
theorem dL_825 : decode code 825 = .ok (.aload_n 2, 1) := by decide +kernel
theorem dL_826 : decode code 826 = .ok (.aload_n 0, 1) := by decide +kernel
theorem dL_827 : decode code 827 = .ok (.iload_n 3, 1) := by decide +kernel
theorem dL_828 : decode code 828 = .ok (.iconst 1, 1) := by decide +kernel
theorem dL_829 : decode code 829 = .ok (.iadd, 1) := by decide +kernel
theorem dL_830 : decode code 830 = .ok (.iaload, 1) := by decide +kernel
theorem dL_831 : decode code 831 = .ok (.aload_n 0, 1) := by decide +kernel
theorem dL_832 : decode code 832 = .ok (.iload_n 3, 1) := by decide +kernel
theorem dL_833 : decode code 833 = .ok (.iconst 2, 1) := by decide +kernel
theorem dL_834 : decode code 834 = .ok (.iadd, 1) := by decide +kernel
theorem dL_835 : decode code 835 = .ok (.iaload, 1) := by decide +kernel
theorem dL_836 : decode code 836 = .ok (.invokevirtual 108, 3) := by decide +kernel
theorem dL_839 : decode code 839 = .ok (.if_icmp .eq 829, 3) := by decide +kernel
theorem dL_842 : decode code 842 = .ok (.iconst 0, 1) := by decide +kernel
theorem dL_843 : decode code 843 = .ok (.ireturn, 1) := by decide +kernel
theorem dL_844 : decode code 844 = .ok (.aload_n 1, 1) := by decide +kernel
theorem dL_845 : decode code 845 = .ok (.aload_n 0, 1) := by decide +kernel
theorem dL_846 : decode code 846 = .ok (.iload_n 3, 1) := by decide +kernel
theorem dL_847 : decode code 847 = .ok (.iconst 1, 1) := by decide +kernel
theorem dL_848 : decode code 848 = .ok (.iadd, 1) := by decide +kernel
theorem dL_849 : decode code 849 = .ok (.iaload, 1) := by decide +kernel
theorem dL_850 : decode code 850 = .ok (.invokevirtual 109, 3) := by decide +kernel
theorem dL_853 : decode code 853 = .ok (.aload_n 2, 1) := by decide +kernel
theorem dL_854 : decode code 854 = .ok (.aload_n 0, 1) := by decide +kernel
theorem dL_855 : decode code 855 = .ok (.iload_n 3, 1) := by decide +kernel
theorem dL_856 : decode code 856 = .ok (.iconst 1, 1) := by decide +kernel
theorem dL_857 : decode code 857 = .ok (.iadd, 1) := by decide +kernel
theorem dL_858 : decode code 858 = .ok (.iaload, 1) := by decide +kernel
theorem dL_859 : decode code 859 = .ok (.invokevirtual 112, 3) := by decide +kernel
theorem dL_862 : decode code 862 = .ok (.if_icmp .eq 806, 3) := by decide +kernel
theorem dL_865 : decode code 865 = .ok (.iconst 0, 1) := by decide +kernel
theorem dL_866 : decode code 866 = .ok (.ireturn, 1) := by decide +kernel
theorem dL_867 : decode code 867 = .ok (.aload_n 1, 1) := by decide +kernel
theorem dL_868 : decode code 868 = .ok (.aload_n 0, 1) := by decide +kernel
theorem dL_869 : decode code 869 = .ok (.iload_n 3, 1) := by decide +kernel
theorem dL_870 : decode code 870 = .ok (.iconst 1, 1) := by decide +kernel
theorem dL_871 : decode code 871 = .ok (.iadd, 1) := by decide +kernel
theorem dL_872 : decode code 872 = .ok (.iaload, 1) := by decide +kernel
theorem dL_873 : decode code 873 = .ok (.aload_n 0, 1) := by decide +kernel
theorem dL_874 : decode code 874 = .ok (.iload_n 3, 1) := by decide +kernel
theorem dL_875 : decode code 875 = .ok (.iconst 2, 1) := by decide +kernel
theorem dL_876 : decode code 876 = .ok (.iadd, 1) := by decide +kernel
theorem dL_877 : decode code 877 = .ok (.iaload, 1) := by decide +kernel
theorem dL_878 : decode code 878 = .ok (.invokevirtual 113, 3) := by decide +kernel
theorem dL_881 : decode code 881 = .ok (.aload_n 2, 1) := by decide +kernel
theorem dL_882 : decode code 882 = .ok (.aload_n 0, 1) := by decide +kernel
theorem dL_883 : decode code 883 = .ok (.iload_n 3, 1) := by decide +kernel
theorem dL_884 : decode code 884 = .ok (.iconst 1, 1) := by decide +kernel
theorem dL_885 : decode code 885 = .ok (.iadd, 1) := by decide +kernel
theorem dL_886 : decode code 886 = .ok (.iaload, 1) := by decide +kernel
theorem dL_887 : decode code 887 = .ok (.aload_n 0, 1) := by decide +kernel
theorem dL_888 : decode code 888 = .ok (.iload_n 3, 1) := by decide +kernel
theorem dL_889 : decode code 889 = .ok (.iconst 2, 1) := by decide +kernel
theorem dL_890 : decode code 890 = .ok (.iadd, 1) := by decide +kernel
theorem dL_891 : decode code 891 = .ok (.iaload, 1) := by decide +kernel
theorem dL_892 : decode code 892 = .ok (.invokevirtual 116, 3) := by decide +kernel
theorem dL_895 : decode code 895 = .ok (.if_icmp .eq 773, 3) := by decide +kernel
theorem dL_898 : decode code 898 = .ok (.iconst 0, 1) := by decide +kernel
theorem dL_899 : decode code 899 = .ok (.ireturn, 1) := by decide +kernel
theorem dL_900 : decode code 900 = .ok (.aload_n 1, 1) := by decide +kernel
theorem dL_901 : decode code 901 = .ok (.aload_n 0, 1) := by decide +kernel
theorem dL_902 : decode code 902 = .ok (.iload_n 3, 1) := by decide +kernel
theorem dL_903 : decode code 903 = .ok (.iconst 1, 1) := by decide +kernel
theorem dL_904 : decode code 904 = .ok (.iadd, 1) := by decide +kernel
theorem dL_905 : decode code 905 = .ok (.iaload, 1) := by decide +kernel
theorem dL_906 : decode code 906 = .ok (.aload_n 0, 1) := by decide +kernel
theorem dL_907 : decode code 907 = .ok (.iload_n 3, 1) := by decide +kernel
theorem dL_908 : decode code 908 = .ok (.iconst 2, 1) := by decide +kernel
theorem dL_909 : decode code 909 = .ok (.iadd, 1) := by decide +kernel
theorem dL_910 : decode code 910 = .ok (.iaload, 1) := by decide +kernel
theorem dL_911 : decode code 911 = .ok (.invokevirtual 117, 3) := by decide +kernel
theorem dL_914 : decode code 914 = .ok (.aload_n 2, 1) := by decide +kernel
theorem dL_915 : decode code 915 = .ok (.aload_n 0, 1) := by decide +kernel
theorem dL_916 : decode code 916 = .ok (.iload_n 3, 1) := by decide +kernel
theorem dL_917 : decode code 917 = .ok (.iconst 1, 1) := by decide +kernel
theorem dL_918 : decode code 918 = .ok (.iadd, 1) := by decide +kernel
theorem dL_919 : decode code 919 = .ok (.iaload, 1) := by decide +kernel
theorem dL_920 : decode code 920 = .ok (.aload_n 0, 1) := by decide +kernel
theorem dL_921 : decode code 921 = .ok (.iload_n 3, 1) := by decide +kernel
theorem dL_922 : decode code 922 = .ok (.iconst 2, 1) := by decide +kernel
theorem dL_923 : decode code 923 = .ok (.iadd, 1) := by decide +kernel
theorem dL_924 : decode code 924 = .ok (.iaload, 1) := by decide +kernel
theorem dL_925 : decode code 925 = .ok (.invokevirtual 120, 3) := by decide +kernel
theorem dL_928 : decode code 928 = .ok (.if_icmp .eq 740, 3) := by decide +kernel
theorem dL_931 : decode code 931 = .ok (.iconst 0, 1) := by decide +kernel
theorem dL_932 : decode code 932 = .ok (.ireturn, 1) := by decide +kernel
theorem dL_933 : decode code 933 = .ok (.aload_n 1, 1) := by decide +kernel
theorem dL_934 : decode code 934 = .ok (.aload_n 0, 1) := by decide +kernel
theorem dL_935 : decode code 935 = .ok (.iload_n 3, 1) := by decide +kernel
theorem dL_936 : decode code 936 = .ok (.iconst 1, 1) := by decide +kernel
theorem dL_937 : decode code 937 = .ok (.iadd, 1) := by decide +kernel
theorem dL_938 : decode code 938 = .ok (.iaload, 1) := by decide +kernel
theorem dL_939 : decode code 939 = .ok (.invokevirtual 121, 3) := by decide +kernel
theorem dL_942 : decode code 942 = .ok (.aload_n 2, 1) := by decide +kernel
theorem dL_943 : decode code 943 = .ok (.aload_n 0, 1) := by decide +kernel
theorem dL_944 : decode code 944 = .ok (.iload_n 3, 1) := by decide +kernel
theorem dL_945 : decode code 945 = .ok (.iconst 1, 1) := by decide +kernel
theorem dL_946 : decode code 946 = .ok (.iadd, 1) := by decide +kernel
theorem dL_947 : decode code 947 = .ok (.iaload, 1) := by decide +kernel
theorem dL_948 : decode code 948 = .ok (.invokevirtual 124, 3) := by decide +kernel
theorem dL_951 : decode code 951 = .ok (.if_icmp .eq 717, 3) := by decide +kernel
theorem dL_954 : decode code 954 = .ok (.iconst 0, 1) := by decide +kernel
theorem dL_955 : decode code 955 = .ok (.ireturn, 1) := by decide +kernel
theorem dL_956 : decode code 956 = .ok (.aload_n 1, 1) := by decide +kernel
theorem dL_957 : decode code 957 = .ok (.aload_n 0, 1) := by decide +kernel
theorem dL_958 : decode code 958 = .ok (.iload_n 3, 1) := by decide +kernel
theorem dL_959 : decode code 959 = .ok (.iconst 1, 1) := by decide +kernel
theorem dL_960 : decode code 960 = .ok (.iadd, 1) := by decide +kernel
theorem dL_961 : decode code 961 = .ok (.iaload, 1) := by decide +kernel
theorem dL_962 : decode code 962 = .ok (.invokevirtual 125, 3) := by decide +kernel
theorem dL_965 : decode code 965 = .ok (.aload_n 2, 1) := by decide +kernel
theorem dL_966 : decode code 966 = .ok (.aload_n 0, 1) := by decide +kernel
theorem dL_967 : decode code 967 = .ok (.iload_n 3, 1) := by decide +kernel
theorem dL_968 : decode code 968 = .ok (.iconst 1, 1) := by decide +kernel
theorem dL_969 : decode code 969 = .ok (.iadd, 1) := by decide +kernel
theorem dL_970 : decode code 970 = .ok (.iaload, 1) := by decide +kernel
theorem dL_971 : decode code 971 = .ok (.invokevirtual 128, 3) := by decide +kernel
theorem dL_974 : decode code 974 = .ok (.if_icmp .eq 694, 3) := by decide +kernel
theorem dL_977 : decode code 977 = .ok (.iconst 0, 1) := by decide +kernel
theorem dL_978 : decode code 978 = .ok (.ireturn, 1) := by decide +kernel
theorem dL_979 : decode code 979 = .ok (.aload_n 1, 1) := by decide +kernel
theorem dL_980 : decode code 980 = .ok (.aload_n 0, 1) := by decide +kernel
theorem dL_981 : decode code 981 = .ok (.iload_n 3, 1) := by decide +kernel
theorem dL_982 : decode code 982 = .ok (.iconst 1, 1) := by decide +kernel
theorem dL_983 : decode code 983 = .ok (.iadd, 1) := by decide +kernel
theorem dL_984 : decode code 984 = .ok (.iaload, 1) := by decide +kernel
theorem dL_985 : decode code 985 = .ok (.aload_n 0, 1) := by decide +kernel
theorem dL_986 : decode code 986 = .ok (.iload_n 3, 1) := by decide +kernel
theorem dL_987 : decode code 987 = .ok (.iconst 2, 1) := by decide +kernel
theorem dL_988 : decode code 988 = .ok (.iadd, 1) := by decide +kernel
theorem dL_989 : decode code 989 = .ok (.iaload, 1) := by decide +kernel
theorem dL_990 : decode code 990 = .ok (.aload_n 0, 1) := by decide +kernel
theorem dL_991 : decode code 991 = .ok (.iload_n 3, 1) := by decide +kernel
theorem dL_992 : decode code 992 = .ok (.iconst 3, 1) := by decide +kernel
theorem dL_993 : decode code 993 = .ok (.iadd, 1) := by decide +kernel
theorem dL_994 : decode code 994 = .ok (.iaload, 1) := by decide +kernel
theorem dL_995 : decode code 995 = .ok (.aload_n 0, 1) := by decide +kernel
theorem dL_996 : decode code 996 = .ok (.iload_n 3, 1) := by decide +kernel
theorem dL_997 : decode code 997 = .ok (.iconst 4, 1) := by decide +kernel
theorem dL_998 : decode code 998 = .ok (.iadd, 1) := by decide +kernel
theorem dL_999 : decode code 999 = .ok (.iaload, 1) := by decide +kernel
theorem dL_1000 : decode code 1000 = .ok (.invokevirtual 129, 3) := by decide +kernel
theorem dL_1003 : decode code 1003 = .ok (.aload_n 2, 1) := by decide +kernel
theorem dL_1004 : decode code 1004 = .ok (.aload_n 0, 1) := by decide +kernel
theorem dL_1005 : decode code 1005 = .ok (.iload_n 3, 1) := by decide +kernel
theorem dL_1006 : decode code 1006 = .ok (.iconst 1, 1) := by decide +kernel
theorem dL_1007 : decode code 1007 = .ok (.iadd, 1) := by decide +kernel
theorem dL_1008 : decode code 1008 = .ok (.iaload, 1) := by decide +kernel
theorem dL_1009 : decode code 1009 = .ok (.aload_n 0, 1) := by decide +kernel
theorem dL_1010 : decode code 1010 = .ok (.iload_n 3, 1) := by decide +kernel
theorem dL_1011 : decode code 1011 = .ok (.iconst 2, 1) := by decide +kernel
theorem dL_1012 : decode code 1012 = .ok (.iadd, 1) := by decide +kernel
theorem dL_1013 : decode code 1013 = .ok (.iaload, 1) := by decide +kernel
theorem dL_1014 : decode code 1014 = .ok (.aload_n 0, 1) := by decide +kernel
theorem dL_1015 : decode code 1015 = .ok (.iload_n 3, 1) := by decide +kernel
theorem dL_1016 : decode code 1016 = .ok (.iconst 3, 1) := by decide +kernel
theorem dL_1017 : decode code 1017 = .ok (.iadd, 1) := by decide +kernel
theorem dL_1018 : decode code 1018 = .ok (.iaload, 1) := by decide +kernel
theorem dL_1019 : decode code 1019 = .ok (.aload_n 0, 1) := by decide +kernel
theorem dL_1020 : decode code 1020 = .ok (.iload_n 3, 1) := by decide +kernel
theorem dL_1021 : decode code 1021 = .ok (.iconst 4, 1) := by decide +kernel
theorem dL_1022 : decode code 1022 = .ok (.iadd, 1) := by decide +kernel
theorem dL_1023 : decode code 1023 = .ok (.iaload, 1) := by decide +kernel
theorem dL_1024 : decode code 1024 = .ok (.invokevirtual 132, 3) := by decide +kernel
theorem dL_1027 : decode code 1027 = .ok (.if_icmp .eq 641, 3) := by decide +kernel
theorem dL_1030 : decode code 1030 = .ok (.iconst 0, 1) := by decide +kernel
theorem dL_1031 : decode code 1031 = .ok (.ireturn, 1) := by decide +kernel
theorem dL_1032 : decode code 1032 = .ok (.aload_n 1, 1) := by decide +kernel
theorem dL_1033 : decode code 1033 = .ok (.invokevirtual 133, 3) := by decide +kernel
theorem dL_1036 : decode code 1036 = .ok (.aload_n 2, 1) := by decide +kernel
theorem dL_1037 : decode code 1037 = .ok (.invokevirtual 136, 3) := by decide +kernel
theorem dL_1040 : decode code 1040 = .ok (.if_icmp .eq 628, 3) := by decide +kernel
theorem dL_1043 : decode code 1043 = .ok (.iconst 0, 1) := by decide +kernel
theorem dL_1044 : decode code 1044 = .ok (.ireturn, 1) := by decide +kernel
theorem dL_1045 : decode code 1045 = .ok (.aload_n 1, 1) := by decide +kernel
theorem dL_1046 : decode code 1046 = .ok (.aload_n 0, 1) := by decide +kernel
theorem dL_1047 : decode code 1047 = .ok (.iload_n 3, 1) := by decide +kernel
theorem dL_1048 : decode code 1048 = .ok (.iconst 1, 1) := by decide +kernel
theorem dL_1049 : decode code 1049 = .ok (.iadd, 1) := by decide +kernel
theorem dL_1050 : decode code 1050 = .ok (.iaload, 1) := by decide +kernel
theorem dL_1051 : decode code 1051 = .ok (.invokevirtual 137, 3) := by decide +kernel
theorem dL_1054 : decode code 1054 = .ok (.aload_n 2, 1) := by decide +kernel
theorem dL_1055 : decode code 1055 = .ok (.aload_n 0, 1) := by decide +kernel
theorem dL_1056 : decode code 1056 = .ok (.iload_n 3, 1) := by decide +kernel
theorem dL_1057 : decode code 1057 = .ok (.iconst 1, 1) := by decide +kernel
theorem dL_1058 : decode code 1058 = .ok (.iadd, 1) := by decide +kernel
theorem dL_1059 : decode code 1059 = .ok (.iaload, 1) := by decide +kernel
theorem dL_1060 : decode code 1060 = .ok (.invokevirtual 140, 3) := by decide +kernel
theorem dL_1063 : decode code 1063 = .ok (.if_icmp .eq 605, 3) := by decide +kernel
theorem dL_1066 : decode code 1066 = .ok (.iconst 0, 1) := by decide +kernel
theorem dL_1067 : decode code 1067 = .ok (.ireturn, 1) := by decide +kernel
theorem dL_1068 : decode code 1068 = .ok (.aload_n 1, 1) := by decide +kernel
theorem dL_1069 : decode code 1069 = .ok (.invokevirtual 141, 3) := by decide +kernel
theorem dL_1072 : decode code 1072 = .ok (.aload_n 2, 1) := by decide +kernel
theorem dL_1073 : decode code 1073 = .ok (.invokevirtual 144, 3) := by decide +kernel
theorem dL_1076 : decode code 1076 = .ok (.if_icmp .eq 592, 3) := by decide +kernel
theorem dL_1079 : decode code 1079 = .ok (.iconst 0, 1) := by decide +kernel
theorem dL_1080 : decode code 1080 = .ok (.ireturn, 1) := by decide +kernel
theorem dL_1081 : decode code 1081 = .ok (.aload_n 1, 1) := by decide +kernel
theorem dL_1082 : decode code 1082 = .ok (.aload_n 0, 1) := by decide +kernel
theorem dL_1083 : decode code 1083 = .ok (.iload_n 3, 1) := by decide +kernel
theorem dL_1084 : decode code 1084 = .ok (.iconst 1, 1) := by decide +kernel
theorem dL_1085 : decode code 1085 = .ok (.iadd, 1) := by decide +kernel
theorem dL_1086 : decode code 1086 = .ok (.iaload, 1) := by decide +kernel
theorem dL_1087 : decode code 1087 = .ok (.invokevirtual 145, 3) := by decide +kernel
theorem dL_1090 : decode code 1090 = .ok (.aload_n 2, 1) := by decide +kernel
theorem dL_1091 : decode code 1091 = .ok (.aload_n 0, 1) := by decide +kernel
theorem dL_1092 : decode code 1092 = .ok (.iload_n 3, 1) := by decide +kernel
theorem dL_1093 : decode code 1093 = .ok (.iconst 1, 1) := by decide +kernel
theorem dL_1094 : decode code 1094 = .ok (.iadd, 1) := by decide +kernel
theorem dL_1095 : decode code 1095 = .ok (.iaload, 1) := by decide +kernel
theorem dL_1096 : decode code 1096 = .ok (.invokevirtual 148, 3) := by decide +kernel
theorem dL_1099 : decode code 1099 = .ok (.if_icmp .eq 569, 3) := by decide +kernel
theorem dL_1102 : decode code 1102 = .ok (.iconst 0, 1) := by decide +kernel
theorem dL_1103 : decode code 1103 = .ok (.ireturn, 1) := by decide +kernel
theorem dL_1104 : decode code 1104 = .ok (.aload_n 1, 1) := by decide +kernel
theorem dL_1105 : decode code 1105 = .ok (.invokevirtual 149, 3) := by decide +kernel
theorem dL_1108 : decode code 1108 = .ok (.aload_n 2, 1) := by decide +kernel
theorem dL_1109 : decode code 1109 = .ok (.invokevirtual 152, 3) := by decide +kernel
theorem dL_1112 : decode code 1112 = .ok (.if_icmp .eq 556, 3) := by decide +kernel
theorem dL_1115 : decode code 1115 = .ok (.iconst 0, 1) := by decide +kernel
theorem dL_1116 : decode code 1116 = .ok (.ireturn, 1) := by decide +kernel
theorem dL_1117 : decode code 1117 = .ok (.aload_n 1, 1) := by decide +kernel
theorem dL_1118 : decode code 1118 = .ok (.aload_n 0, 1) := by decide +kernel
theorem dL_1119 : decode code 1119 = .ok (.iload_n 3, 1) := by decide +kernel
theorem dL_1120 : decode code 1120 = .ok (.iconst 1, 1) := by decide +kernel
theorem dL_1121 : decode code 1121 = .ok (.iadd, 1) := by decide +kernel
theorem dL_1122 : decode code 1122 = .ok (.iaload, 1) := by decide +kernel
theorem dL_1123 : decode code 1123 = .ok (.aload_n 0, 1) := by decide +kernel
theorem dL_1124 : decode code 1124 = .ok (.iload_n 3, 1) := by decide +kernel
theorem dL_1125 : decode code 1125 = .ok (.iconst 2, 1) := by decide +kernel
theorem dL_1126 : decode code 1126 = .ok (.iadd, 1) := by decide +kernel
theorem dL_1127 : decode code 1127 = .ok (.iaload, 1) := by decide +kernel
theorem dL_1128 : decode code 1128 = .ok (.invokevirtual 153, 3) := by decide +kernel
theorem dL_1131 : decode code 1131 = .ok (.aload_n 2, 1) := by decide +kernel
theorem dL_1132 : decode code 1132 = .ok (.aload_n 0, 1) := by decide +kernel
theorem dL_1133 : decode code 1133 = .ok (.iload_n 3, 1) := by decide +kernel
theorem dL_1134 : decode code 1134 = .ok (.iconst 1, 1) := by decide +kernel
theorem dL_1135 : decode code 1135 = .ok (.iadd, 1) := by decide +kernel
theorem dL_1136 : decode code 1136 = .ok (.iaload, 1) := by decide +kernel
theorem dL_1137 : decode code 1137 = .ok (.aload_n 0, 1) := by decide +kernel
theorem dL_1138 : decode code 1138 = .ok (.iload_n 3, 1) := by decide +kernel
theorem dL_1139 : decode code 1139 = .ok (.iconst 2, 1) := by decide +kernel
theorem dL_1140 : decode code 1140 = .ok (.iadd, 1) := by decide +kernel
theorem dL_1141 : decode code 1141 = .ok (.iaload, 1) := by decide +kernel
theorem dL_1142 : decode code 1142 = .ok (.invokevirtual 156, 3) := by decide +kernel
theorem dL_1145 : decode code 1145 = .ok (.if_icmp .eq 523, 3) := by decide +kernel
theorem dL_1148 : decode code 1148 = .ok (.iconst 0, 1) := by decide +kernel
theorem dL_1149 : decode code 1149 = .ok (.ireturn, 1) := by decide +kernel
theorem dL_1150 : decode code 1150 = .ok (.aload_n 1, 1) := by decide +kernel
theorem dL_1151 : decode code 1151 = .ok (.aload_n 0, 1) := by decide +kernel
theorem dL_1152 : decode code 1152 = .ok (.iload_n 3, 1) := by decide +kernel
theorem dL_1153 : decode code 1153 = .ok (.iconst 1, 1) := by decide +kernel
theorem dL_1154 : decode code 1154 = .ok (.iadd, 1) := by decide +kernel
theorem dL_1155 : decode code 1155 = .ok (.iaload, 1) := by decide +kernel
theorem dL_1156 : decode code 1156 = .ok (.invokevirtual 157, 3) := by decide +kernel
theorem dL_1159 : decode code 1159 = .ok (.aload_n 2, 1) := by decide +kernel
theorem dL_1160 : decode code 1160 = .ok (.aload_n 0, 1) := by decide +kernel
theorem dL_1161 : decode code 1161 = .ok (.iload_n 3, 1) := by decide +kernel
theorem dL_1162 : decode code 1162 = .ok (.iconst 1, 1) := by decide +kernel
theorem dL_1163 : decode code 1163 = .ok (.iadd, 1) := by decide +kernel
theorem dL_1164 : decode code 1164 = .ok (.iaload, 1) := by decide +kernel
theorem dL_1165 : decode code 1165 = .ok (.invokevirtual 160, 3) := by decide +kernel
theorem dL_1168 : decode code 1168 = .ok (.if_icmp .eq 500, 3) := by decide +kernel
theorem dL_1171 : decode code 1171 = .ok (.iconst 0, 1) := by decide +kernel
theorem dL_1172 : decode code 1172 = .ok (.ireturn, 1) := by decide +kernel
theorem dL_1173 : decode code 1173 = .ok (.aload_n 1, 1) := by decide +kernel
theorem dL_1174 : decode code 1174 = .ok (.aload_n 0, 1) := by decide +kernel
theorem dL_1175 : decode code 1175 = .ok (.iload_n 3, 1) := by decide +kernel
theorem dL_1176 : decode code 1176 = .ok (.iconst 1, 1) := by decide +kernel
theorem dL_1177 : decode code 1177 = .ok (.iadd, 1) := by decide +kernel
theorem dL_1178 : decode code 1178 = .ok (.iaload, 1) := by decide +kernel
theorem dL_1179 : decode code 1179 = .ok (.aload_n 0, 1) := by decide +kernel
theorem dL_1180 : decode code 1180 = .ok (.iload_n 3, 1) := by decide +kernel
theorem dL_1181 : decode code 1181 = .ok (.iconst 2, 1) := by decide +kernel
theorem dL_1182 : decode code 1182 = .ok (.iadd, 1) := by decide +kernel
theorem dL_1183 : decode code 1183 = .ok (.iaload, 1) := by decide +kernel
theorem dL_1184 : decode code 1184 = .ok (.invokevirtual 161, 3) := by decide +kernel
theorem dL_1187 : decode code 1187 = .ok (.aload_n 2, 1) := by decide +kernel
theorem dL_1188 : decode code 1188 = .ok (.aload_n 0, 1) := by decide +kernel
theorem dL_1189 : decode code 1189 = .ok (.iload_n 3, 1) := by decide +kernel
theorem dL_1190 : decode code 1190 = .ok (.iconst 1, 1) := by decide +kernel
theorem dL_1191 : decode code 1191 = .ok (.iadd, 1) := by decide +kernel
theorem dL_1192 : decode code 1192 = .ok (.iaload, 1) := by decide +kernel
theorem dL_1193 : decode code 1193 = .ok (.aload_n 0, 1) := by decide +kernel
theorem dL_1194 : decode code 1194 = .ok (.iload_n 3, 1) := by decide +kernel
theorem dL_1195 : decode code 1195 = .ok (.iconst 2, 1) := by decide +kernel
theorem dL_1196 : decode code 1196 = .ok (.iadd, 1) := by decide +kernel
theorem dL_1197 : decode code 1197 = .ok (.iaload, 1) := by decide +kernel
theorem dL_1198 : decode code 1198 = .ok (.invokevirtual 164, 3) := by decide +kernel
theorem dL_1201 : decode code 1201 = .ok (.if_icmp .eq 467, 3) := by decide +kernel
theorem dL_1204 : decode code 1204 = .ok (.iconst 0, 1) := by decide +kernel
theorem dL_1205 : decode code 1205 = .ok (.ireturn, 1) := by decide +kernel
theorem dL_1206 : decode code 1206 = .ok (.aload_n 1, 1) := by decide +kernel
theorem dL_1207 : decode code 1207 = .ok (.aload_n 0, 1) := by decide +kernel
theorem dL_1208 : decode code 1208 = .ok (.iload_n 3, 1) := by decide +kernel
theorem dL_1209 : decode code 1209 = .ok (.iconst 1, 1) := by decide +kernel
theorem dL_1210 : decode code 1210 = .ok (.iadd, 1) := by decide +kernel
theorem dL_1211 : decode code 1211 = .ok (.iaload, 1) := by decide +kernel
theorem dL_1212 : decode code 1212 = .ok (.aload_n 0, 1) := by decide +kernel
theorem dL_1213 : decode code 1213 = .ok (.iload_n 3, 1) := by decide +kernel
theorem dL_1214 : decode code 1214 = .ok (.iconst 2, 1) := by decide +kernel
theorem dL_1215 : decode code 1215 = .ok (.iadd, 1) := by decide +kernel
theorem dL_1216 : decode code 1216 = .ok (.iaload, 1) := by decide +kernel
theorem dL_1217 : decode code 1217 = .ok (.aload_n 0, 1) := by decide +kernel
theorem dL_1218 : decode code 1218 = .ok (.iload_n 3, 1) := by decide +kernel
theorem dL_1219 : decode code 1219 = .ok (.iconst 3, 1) := by decide +kernel
theorem dL_1220 : decode code 1220 = .ok (.iadd, 1) := by decide +kernel
theorem dL_1221 : decode code 1221 = .ok (.iaload, 1) := by decide +kernel
theorem dL_1222 : decode code 1222 = .ok (.invokevirtual 165, 3) := by decide +kernel
theorem dL_1225 : decode code 1225 = .ok (.aload_n 2, 1) := by decide +kernel
theorem dL_1226 : decode code 1226 = .ok (.aload_n 0, 1) := by decide +kernel
theorem dL_1227 : decode code 1227 = .ok (.iload_n 3, 1) := by decide +kernel
theorem dL_1228 : decode code 1228 = .ok (.iconst 1, 1) := by decide +kernel
theorem dL_1229 : decode code 1229 = .ok (.iadd, 1) := by decide +kernel
theorem dL_1230 : decode code 1230 = .ok (.iaload, 1) := by decide +kernel
theorem dL_1231 : decode code 1231 = .ok (.aload_n 0, 1) := by decide +kernel
theorem dL_1232 : decode code 1232 = .ok (.iload_n 3, 1) := by decide +kernel
theorem dL_1233 : decode code 1233 = .ok (.iconst 2, 1) := by decide +kernel
theorem dL_1234 : decode code 1234 = .ok (.iadd, 1) := by decide +kernel
theorem dL_1235 : decode code 1235 = .ok (.iaload, 1) := by decide +kernel
theorem dL_1236 : decode code 1236 = .ok (.aload_n 0, 1) := by decide +kernel
theorem dL_1237 : decode code 1237 = .ok (.iload_n 3, 1) := by decide +kernel
theorem dL_1238 : decode code 1238 = .ok (.iconst 3, 1) := by decide +kernel
theorem dL_1239 : decode code 1239 = .ok (.iadd, 1) := by decide +kernel
theorem dL_1240 : decode code 1240 = .ok (.iaload, 1) := by decide +kernel
theorem dL_1241 : decode code 1241 = .ok (.invokevirtual 168, 3) := by decide +kernel
theorem dL_1244 : decode code 1244 = .ok (.if_icmp .eq 424, 3) := by decide +kernel
theorem dL_1247 : decode code 1247 = .ok (.iconst 0, 1) := by decide +kernel
theorem dL_1248 : decode code 1248 = .ok (.ireturn, 1) := by decide +kernel
theorem dL_1249 : decode code 1249 = .ok (.aload_n 1, 1) := by decide +kernel
theorem dL_1250 : decode code 1250 = .ok (.invokevirtual 169, 3) := by decide +kernel
theorem dL_1253 : decode code 1253 = .ok (.aload_n 2, 1) := by decide +kernel
theorem dL_1254 : decode code 1254 = .ok (.invokevirtual 172, 3) := by decide +kernel
theorem dL_1257 : decode code 1257 = .ok (.if_icmp .eq 411, 3) := by decide +kernel
theorem dL_1260 : decode code 1260 = .ok (.iconst 0, 1) := by decide +kernel
theorem dL_1261 : decode code 1261 = .ok (.ireturn, 1) := by decide +kernel
theorem dL_1262 : decode code 1262 = .ok (.aload_n 1, 1) := by decide +kernel
theorem dL_1263 : decode code 1263 = .ok (.aload_n 0, 1) := by decide +kernel
theorem dL_1264 : decode code 1264 = .ok (.iload_n 3, 1) := by decide +kernel
theorem dL_1265 : decode code 1265 = .ok (.iconst 1, 1) := by decide +kernel
theorem dL_1266 : decode code 1266 = .ok (.iadd, 1) := by decide +kernel
theorem dL_1267 : decode code 1267 = .ok (.iaload, 1) := by decide +kernel
theorem dL_1268 : decode code 1268 = .ok (.aload_n 0, 1) := by decide +kernel
theorem dL_1269 : decode code 1269 = .ok (.iload_n 3, 1) := by decide +kernel
theorem dL_1270 : decode code 1270 = .ok (.iconst 2, 1) := by decide +kernel
theorem dL_1271 : decode code 1271 = .ok (.iadd, 1) := by decide +kernel
theorem dL_1272 : decode code 1272 = .ok (.iaload, 1) := by decide +kernel
theorem dL_1273 : decode code 1273 = .ok (.aload_n 0, 1) := by decide +kernel
theorem dL_1274 : decode code 1274 = .ok (.iload_n 3, 1) := by decide +kernel
theorem dL_1275 : decode code 1275 = .ok (.iconst 3, 1) := by decide +kernel
theorem dL_1276 : decode code 1276 = .ok (.iadd, 1) := by decide +kernel
theorem dL_1277 : decode code 1277 = .ok (.iaload, 1) := by decide +kernel
theorem dL_1278 : decode code 1278 = .ok (.invokevirtual 173, 3) := by decide +kernel
theorem dL_1281 : decode code 1281 = .ok (.aload_n 2, 1) := by decide +kernel
theorem dL_1282 : decode code 1282 = .ok (.aload_n 0, 1) := by decide +kernel
theorem dL_1283 : decode code 1283 = .ok (.iload_n 3, 1) := by decide +kernel
theorem dL_1284 : decode code 1284 = .ok (.iconst 1, 1) := by decide +kernel
theorem dL_1285 : decode code 1285 = .ok (.iadd, 1) := by decide +kernel
theorem dL_1286 : decode code 1286 = .ok (.iaload, 1) := by decide +kernel
theorem dL_1287 : decode code 1287 = .ok (.aload_n 0, 1) := by decide +kernel
theorem dL_1288 : decode code 1288 = .ok (.iload_n 3, 1) := by decide +kernel
theorem dL_1289 : decode code 1289 = .ok (.iconst 2, 1) := by decide +kernel
theorem dL_1290 : decode code 1290 = .ok (.iadd, 1) := by decide +kernel
theorem dL_1291 : decode code 1291 = .ok (.iaload, 1) := by decide +kernel
theorem dL_1292 : decode code 1292 = .ok (.aload_n 0, 1) := by decide +kernel
theorem dL_1293 : decode code 1293 = .ok (.iload_n 3, 1) := by decide +kernel
theorem dL_1294 : decode code 1294 = .ok (.iconst 3, 1) := by decide +kernel
theorem dL_1295 : decode code 1295 = .ok (.iadd, 1) := by decide +kernel
theorem dL_1296 : decode code 1296 = .ok (.iaload, 1) := by decide +kernel
theorem dL_1297 : decode code 1297 = .ok (.invokevirtual 176, 3) := by decide +kernel
theorem dL_1300 : decode code 1300 = .ok (.if_icmp .eq 368, 3) := by decide +kernel
theorem dL_1303 : decode code 1303 = .ok (.iconst 0, 1) := by decide +kernel
theorem dL_1304 : decode code 1304 = .ok (.ireturn, 1) := by decide +kernel
theorem dL_1305 : decode code 1305 = .ok (.aload_n 1, 1) := by decide +kernel
theorem dL_1306 : decode code 1306 = .ok (.aload_n 0, 1) := by decide +kernel
theorem dL_1307 : decode code 1307 = .ok (.iload_n 3, 1) := by decide +kernel
theorem dL_1308 : decode code 1308 = .ok (.iconst 1, 1) := by decide +kernel
theorem dL_1309 : decode code 1309 = .ok (.iadd, 1) := by decide +kernel
theorem dL_1310 : decode code 1310 = .ok (.iaload, 1) := by decide +kernel
theorem dL_1311 : decode code 1311 = .ok (.aload_n 0, 1) := by decide +kernel
theorem dL_1312 : decode code 1312 = .ok (.iload_n 3, 1) := by decide +kernel
theorem dL_1313 : decode code 1313 = .ok (.iconst 2, 1) := by decide +kernel
theorem dL_1314 : decode code 1314 = .ok (.iadd, 1) := by decide +kernel
theorem dL_1315 : decode code 1315 = .ok (.iaload, 1) := by decide +kernel
theorem dL_1316 : decode code 1316 = .ok (.aload_n 0, 1) := by decide +kernel
theorem dL_1317 : decode code 1317 = .ok (.iload_n 3, 1) := by decide +kernel
theorem dL_1318 : decode code 1318 = .ok (.iconst 3, 1) := by decide +kernel
theorem dL_1319 : decode code 1319 = .ok (.iadd, 1) := by decide +kernel
theorem dL_1320 : decode code 1320 = .ok (.iaload, 1) := by decide +kernel
theorem dL_1321 : decode code 1321 = .ok (.invokevirtual 177, 3) := by decide +kernel
theorem dL_1324 : decode code 1324 = .ok (.aload_n 2, 1) := by decide +kernel
theorem dL_1325 : decode code 1325 = .ok (.aload_n 0, 1) := by decide +kernel
theorem dL_1326 : decode code 1326 = .ok (.iload_n 3, 1) := by decide +kernel
theorem dL_1327 : decode code 1327 = .ok (.iconst 1, 1) := by decide +kernel
theorem dL_1328 : decode code 1328 = .ok (.iadd, 1) := by decide +kernel
theorem dL_1329 : decode code 1329 = .ok (.iaload, 1) := by decide +kernel
theorem dL_1330 : decode code 1330 = .ok (.aload_n 0, 1) := by decide +kernel
theorem dL_1331 : decode code 1331 = .ok (.iload_n 3, 1) := by decide +kernel
theorem dL_1332 : decode code 1332 = .ok (.iconst 2, 1) := by decide +kernel
theorem dL_1333 : decode code 1333 = .ok (.iadd, 1) := by decide +kernel
theorem dL_1334 : decode code 1334 = .ok (.iaload, 1) := by decide +kernel
theorem dL_1335 : decode code 1335 = .ok (.aload_n 0, 1) := by decide +kernel
theorem dL_1336 : decode code 1336 = .ok (.iload_n 3, 1) := by decide +kernel
theorem dL_1337 : decode code 1337 = .ok (.iconst 3, 1) := by decide +kernel
theorem dL_1338 : decode code 1338 = .ok (.iadd, 1) := by decide +kernel
theorem dL_1339 : decode code 1339 = .ok (.iaload, 1) := by decide +kernel
theorem dL_1340 : decode code 1340 = .ok (.invokevirtual 180, 3) := by decide +kernel
theorem dL_1343 : decode code 1343 = .ok (.if_icmp .eq 325, 3) := by decide +kernel
theorem dL_1346 : decode code 1346 = .ok (.iconst 0, 1) := by decide +kernel
theorem dL_1347 : decode code 1347 = .ok (.ireturn, 1) := by decide +kernel
theorem dL_1348 : decode code 1348 = .ok (.aload_n 1, 1) := by decide +kernel
theorem dL_1349 : decode code 1349 = .ok (.aload_n 0, 1) := by decide +kernel
theorem dL_1350 : decode code 1350 = .ok (.iload_n 3, 1) := by decide +kernel
theorem dL_1351 : decode code 1351 = .ok (.iconst 1, 1) := by decide +kernel
theorem dL_1352 : decode code 1352 = .ok (.iadd, 1) := by decide +kernel
theorem dL_1353 : decode code 1353 = .ok (.iaload, 1) := by decide +kernel
theorem dL_1354 : decode code 1354 = .ok (.aload_n 0, 1) := by decide +kernel
theorem dL_1355 : decode code 1355 = .ok (.iload_n 3, 1) := by decide +kernel
theorem dL_1356 : decode code 1356 = .ok (.iconst 2, 1) := by decide +kernel
theorem dL_1357 : decode code 1357 = .ok (.iadd, 1) := by decide +kernel
theorem dL_1358 : decode code 1358 = .ok (.iaload, 1) := by decide +kernel
theorem dL_1359 : decode code 1359 = .ok (.aload_n 0, 1) := by decide +kernel
theorem dL_1360 : decode code 1360 = .ok (.iload_n 3, 1) := by decide +kernel
theorem dL_1361 : decode code 1361 = .ok (.iconst 3, 1) := by decide +kernel
theorem dL_1362 : decode code 1362 = .ok (.iadd, 1) := by decide +kernel
theorem dL_1363 : decode code 1363 = .ok (.iaload, 1) := by decide +kernel
theorem dL_1364 : decode code 1364 = .ok (.invokevirtual 181, 3) := by decide +kernel
theorem dL_1367 : decode code 1367 = .ok (.aload_n 2, 1) := by decide +kernel
theorem dL_1368 : decode code 1368 = .ok (.aload_n 0, 1) := by decide +kernel
theorem dL_1369 : decode code 1369 = .ok (.iload_n 3, 1) := by decide +kernel
theorem dL_1370 : decode code 1370 = .ok (.iconst 1, 1) := by decide +kernel
theorem dL_1371 : decode code 1371 = .ok (.iadd, 1) := by decide +kernel
theorem dL_1372 : decode code 1372 = .ok (.iaload, 1) := by decide +kernel
theorem dL_1373 : decode code 1373 = .ok (.aload_n 0, 1) := by decide +kernel
theorem dL_1374 : decode code 1374 = .ok (.iload_n 3, 1) := by decide +kernel
theorem dL_1375 : decode code 1375 = .ok (.iconst 2, 1) := by decide +kernel
theorem dL_1376 : decode code 1376 = .ok (.iadd, 1) := by decide +kernel
theorem dL_1377 : decode code 1377 = .ok (.iaload, 1) := by decide +kernel
theorem dL_1378 : decode code 1378 = .ok (.aload_n 0, 1) := by decide +kernel
theorem dL_1379 : decode code 1379 = .ok (.iload_n 3, 1) := by decide +kernel
theorem dL_1380 : decode code 1380 = .ok (.iconst 3, 1) := by decide +kernel
theorem dL_1381 : decode code 1381 = .ok (.iadd, 1) := by decide +kernel
theorem dL_1382 : decode code 1382 = .ok (.iaload, 1) := by decide +kernel
theorem dL_1383 : decode code 1383 = .ok (.invokevirtual 184, 3) := by decide +kernel
theorem dL_1386 : decode code 1386 = .ok (.if_icmp .eq 282, 3) := by decide +kernel
theorem dL_1389 : decode code 1389 = .ok (.iconst 0, 1) := by decide +kernel
theorem dL_1390 : decode code 1390 = .ok (.ireturn, 1) := by decide +kernel
theorem dL_1391 : decode code 1391 = .ok (.aload_n 1, 1) := by decide +kernel
theorem dL_1392 : decode code 1392 = .ok (.aload_n 0, 1) := by decide +kernel
theorem dL_1393 : decode code 1393 = .ok (.iload_n 3, 1) := by decide +kernel
theorem dL_1394 : decode code 1394 = .ok (.iconst 1, 1) := by decide +kernel
theorem dL_1395 : decode code 1395 = .ok (.iadd, 1) := by decide +kernel
theorem dL_1396 : decode code 1396 = .ok (.iaload, 1) := by decide +kernel
theorem dL_1397 : decode code 1397 = .ok (.aload_n 0, 1) := by decide +kernel
theorem dL_1398 : decode code 1398 = .ok (.iload_n 3, 1) := by decide +kernel
theorem dL_1399 : decode code 1399 = .ok (.iconst 2, 1) := by decide +kernel
theorem dL_1400 : decode code 1400 = .ok (.iadd, 1) := by decide +kernel
theorem dL_1401 : decode code 1401 = .ok (.iaload, 1) := by decide +kernel
theorem dL_1402 : decode code 1402 = .ok (.aload_n 0, 1) := by decide +kernel
theorem dL_1403 : decode code 1403 = .ok (.iload_n 3, 1) := by decide +kernel
theorem dL_1404 : decode code 1404 = .ok (.iconst 3, 1) := by decide +kernel
theorem dL_1405 : decode code 1405 = .ok (.iadd, 1) := by decide +kernel
theorem dL_1406 : decode code 1406 = .ok (.iaload, 1) := by decide +kernel
theorem dL_1407 : decode code 1407 = .ok (.invokevirtual 185, 3) := by decide +kernel
theorem dL_1410 : decode code 1410 = .ok (.aload_n 2, 1) := by decide +kernel
theorem dL_1411 : decode code 1411 = .ok (.aload_n 0, 1) := by decide +kernel
theorem dL_1412 : decode code 1412 = .ok (.iload_n 3, 1) := by decide +kernel
theorem dL_1413 : decode code 1413 = .ok (.iconst 1, 1) := by decide +kernel
theorem dL_1414 : decode code 1414 = .ok (.iadd, 1) := by decide +kernel
theorem dL_1415 : decode code 1415 = .ok (.iaload, 1) := by decide +kernel
theorem dL_1416 : decode code 1416 = .ok (.aload_n 0, 1) := by decide +kernel
theorem dL_1417 : decode code 1417 = .ok (.iload_n 3, 1) := by decide +kernel
theorem dL_1418 : decode code 1418 = .ok (.iconst 2, 1) := by decide +kernel
theorem dL_1419 : decode code 1419 = .ok (.iadd, 1) := by decide +kernel
theorem dL_1420 : decode code 1420 = .ok (.iaload, 1) := by decide +kernel
theorem dL_1421 : decode code 1421 = .ok (.aload_n 0, 1) := by decide +kernel
theorem dL_1422 : decode code 1422 = .ok (.iload_n 3, 1) := by decide +kernel
theorem dL_1423 : decode code 1423 = .ok (.iconst 3, 1) := by decide +kernel
theorem dL_1424 : decode code 1424 = .ok (.iadd, 1) := by decide +kernel
theorem dL_1425 : decode code 1425 = .ok (.iaload, 1) := by decide +kernel
theorem dL_1426 : decode code 1426 = .ok (.invokevirtual 188, 3) := by decide +kernel
theorem dL_1429 : decode code 1429 = .ok (.if_icmp .eq 239, 3) := by decide +kernel
theorem dL_1432 : decode code 1432 = .ok (.iconst 0, 1) := by decide +kernel
theorem dL_1433 : decode code 1433 = .ok (.ireturn, 1) := by decide +kernel
theorem dL_1434 : decode code 1434 = .ok (.aload_n 1, 1) := by decide +kernel
theorem dL_1435 : decode code 1435 = .ok (.aload_n 0, 1) := by decide +kernel
theorem dL_1436 : decode code 1436 = .ok (.iload_n 3, 1) := by decide +kernel
theorem dL_1437 : decode code 1437 = .ok (.iconst 1, 1) := by decide +kernel
theorem dL_1438 : decode code 1438 = .ok (.iadd, 1) := by decide +kernel
theorem dL_1439 : decode code 1439 = .ok (.iaload, 1) := by decide +kernel
theorem dL_1440 : decode code 1440 = .ok (.aload_n 0, 1) := by decide +kernel
theorem dL_1441 : decode code 1441 = .ok (.iload_n 3, 1) := by decide +kernel
theorem dL_1442 : decode code 1442 = .ok (.iconst 2, 1) := by decide +kernel
theorem dL_1443 : decode code 1443 = .ok (.iadd, 1) := by decide +kernel
theorem dL_1444 : decode code 1444 = .ok (.iaload, 1) := by decide +kernel
theorem dL_1445 : decode code 1445 = .ok (.aload_n 0, 1) := by decide +kernel
theorem dL_1446 : decode code 1446 = .ok (.iload_n 3, 1) := by decide +kernel
theorem dL_1447 : decode code 1447 = .ok (.iconst 3, 1) := by decide +kernel
theorem dL_1448 : decode code 1448 = .ok (.iadd, 1) := by decide +kernel
theorem dL_1449 : decode code 1449 = .ok (.iaload, 1) := by decide +kernel
theorem dL_1450 : decode code 1450 = .ok (.invokevirtual 189, 3) := by decide +kernel
theorem dL_1453 : decode code 1453 = .ok (.aload_n 2, 1) := by decide +kernel
theorem dL_1454 : decode code 1454 = .ok (.aload_n 0, 1) := by decide +kernel
theorem dL_1455 : decode code 1455 = .ok (.iload_n 3, 1) := by decide +kernel
theorem dL_1456 : decode code 1456 = .ok (.iconst 1, 1) := by decide +kernel
theorem dL_1457 : decode code 1457 = .ok (.iadd, 1) := by decide +kernel
theorem dL_1458 : decode code 1458 = .ok (.iaload, 1) := by decide +kernel
theorem dL_1459 : decode code 1459 = .ok (.aload_n 0, 1) := by decide +kernel
theorem dL_1460 : decode code 1460 = .ok (.iload_n 3, 1) := by decide +kernel
theorem dL_1461 : decode code 1461 = .ok (.iconst 2, 1) := by decide +kernel
theorem dL_1462 : decode code 1462 = .ok (.iadd, 1) := by decide +kernel
theorem dL_1463 : decode code 1463 = .ok (.iaload, 1) := by decide +kernel
theorem dL_1464 : decode code 1464 = .ok (.aload_n 0, 1) := by decide +kernel
theorem dL_1465 : decode code 1465 = .ok (.iload_n 3, 1) := by decide +kernel
theorem dL_1466 : decode code 1466 = .ok (.iconst 3, 1) := by decide +kernel
theorem dL_1467 : decode code 1467 = .ok (.iadd, 1) := by decide +kernel
theorem dL_1468 : decode code 1468 = .ok (.iaload, 1) := by decide +kernel
theorem dL_1469 : decode code 1469 = .ok (.invokevirtual 192, 3) := by decide +kernel
theorem dL_1472 : decode code 1472 = .ok (.if_icmp .eq 196, 3) := by decide +kernel
theorem dL_1475 : decode code 1475 = .ok (.iconst 0, 1) := by decide +kernel
theorem dL_1476 : decode code 1476 = .ok (.ireturn, 1) := by decide +kernel
theorem dL_1477 : decode code 1477 = .ok (.aload_n 1, 1) := by decide +kernel
theorem dL_1478 : decode code 1478 = .ok (.aload_n 0, 1) := by decide +kernel
theorem dL_1479 : decode code 1479 = .ok (.iload_n 3, 1) := by decide +kernel
theorem dL_1480 : decode code 1480 = .ok (.iconst 1, 1) := by decide +kernel
theorem dL_1481 : decode code 1481 = .ok (.iadd, 1) := by decide +kernel
theorem dL_1482 : decode code 1482 = .ok (.iaload, 1) := by decide +kernel
theorem dL_1483 : decode code 1483 = .ok (.aload_n 0, 1) := by decide +kernel
theorem dL_1484 : decode code 1484 = .ok (.iload_n 3, 1) := by decide +kernel
theorem dL_1485 : decode code 1485 = .ok (.iconst 2, 1) := by decide +kernel
theorem dL_1486 : decode code 1486 = .ok (.iadd, 1) := by decide +kernel
theorem dL_1487 : decode code 1487 = .ok (.iaload, 1) := by decide +kernel
theorem dL_1488 : decode code 1488 = .ok (.aload_n 0, 1) := by decide +kernel
theorem dL_1489 : decode code 1489 = .ok (.iload_n 3, 1) := by decide +kernel
theorem dL_1490 : decode code 1490 = .ok (.iconst 3, 1) := by decide +kernel
theorem dL_1491 : decode code 1491 = .ok (.iadd, 1) := by decide +kernel
theorem dL_1492 : decode code 1492 = .ok (.iaload, 1) := by decide +kernel
theorem dL_1493 : decode code 1493 = .ok (.invokevirtual 193, 3) := by decide +kernel
theorem dL_1496 : decode code 1496 = .ok (.aload_n 2, 1) := by decide +kernel
theorem dL_1497 : decode code 1497 = .ok (.aload_n 0, 1) := by decide +kernel
theorem dL_1498 : decode code 1498 = .ok (.iload_n 3, 1) := by decide +kernel
theorem dL_1499 : decode code 1499 = .ok (.iconst 1, 1) := by decide +kernel
theorem dL_1500 : decode code 1500 = .ok (.iadd, 1) := by decide +kernel
theorem dL_1501 : decode code 1501 = .ok (.iaload, 1) := by decide +kernel
theorem dL_1502 : decode code 1502 = .ok (.aload_n 0, 1) := by decide +kernel
theorem dL_1503 : decode code 1503 = .ok (.iload_n 3, 1) := by decide +kernel
theorem dL_1504 : decode code 1504 = .ok (.iconst 2, 1) := by decide +kernel
theorem dL_1505 : decode code 1505 = .ok (.iadd, 1) := by decide +kernel
theorem dL_1506 : decode code 1506 = .ok (.iaload, 1) := by decide +kernel
theorem dL_1507 : decode code 1507 = .ok (.aload_n 0, 1) := by decide +kernel
theorem dL_1508 : decode code 1508 = .ok (.iload_n 3, 1) := by decide +kernel
theorem dL_1509 : decode code 1509 = .ok (.iconst 3, 1) := by decide +kernel
theorem dL_1510 : decode code 1510 = .ok (.iadd, 1) := by decide +kernel
theorem dL_1511 : decode code 1511 = .ok (.iaload, 1) := by decide +kernel
theorem dL_1512 : decode code 1512 = .ok (.invokevirtual 196, 3) := by decide +kernel
theorem dL_1515 : decode code 1515 = .ok (.if_icmp .eq 153, 3) := by decide +kernel
theorem dL_1518 : decode code 1518 = .ok (.iconst 0, 1) := by decide +kernel
theorem dL_1519 : decode code 1519 = .ok (.ireturn, 1) := by decide +kernel
theorem dL_1520 : decode code 1520 = .ok (.aload_n 1, 1) := by decide +kernel
theorem dL_1521 : decode code 1521 = .ok (.aload_n 0, 1) := by decide +kernel
theorem dL_1522 : decode code 1522 = .ok (.iload_n 3, 1) := by decide +kernel
theorem dL_1523 : decode code 1523 = .ok (.iconst 1, 1) := by decide +kernel
theorem dL_1524 : decode code 1524 = .ok (.iadd, 1) := by decide +kernel
theorem dL_1525 : decode code 1525 = .ok (.iaload, 1) := by decide +kernel
theorem dL_1526 : decode code 1526 = .ok (.aload_n 0, 1) := by decide +kernel
theorem dL_1527 : decode code 1527 = .ok (.iload_n 3, 1) := by decide +kernel
theorem dL_1528 : decode code 1528 = .ok (.iconst 2, 1) := by decide +kernel
theorem dL_1529 : decode code 1529 = .ok (.iadd, 1) := by decide +kernel
theorem dL_1530 : decode code 1530 = .ok (.iaload, 1) := by decide +kernel
theorem dL_1531 : decode code 1531 = .ok (.invokevirtual 197, 3) := by decide +kernel
theorem dL_1534 : decode code 1534 = .ok (.aload_n 2, 1) := by decide +kernel
theorem dL_1535 : decode code 1535 = .ok (.aload_n 0, 1) := by decide +kernel
theorem dL_1536 : decode code 1536 = .ok (.iload_n 3, 1) := by decide +kernel
theorem dL_1537 : decode code 1537 = .ok (.iconst 1, 1) := by decide +kernel
theorem dL_1538 : decode code 1538 = .ok (.iadd, 1) := by decide +kernel
theorem dL_1539 : decode code 1539 = .ok (.iaload, 1) := by decide +kernel
theorem dL_1540 : decode code 1540 = .ok (.aload_n 0, 1) := by decide +kernel
theorem dL_1541 : decode code 1541 = .ok (.iload_n 3, 1) := by decide +kernel
theorem dL_1542 : decode code 1542 = .ok (.iconst 2, 1) := by decide +kernel
theorem dL_1543 : decode code 1543 = .ok (.iadd, 1) := by decide +kernel
theorem dL_1544 : decode code 1544 = .ok (.iaload, 1) := by decide +kernel
theorem dL_1545 : decode code 1545 = .ok (.invokevirtual 200, 3) := by decide +kernel
theorem dL_1548 : decode code 1548 = .ok (.if_icmp .eq 120, 3) := by decide +kernel
theorem dL_1551 : decode code 1551 = .ok (.iconst 0, 1) := by decide +kernel
theorem dL_1552 : decode code 1552 = .ok (.ireturn, 1) := by decide +kernel
theorem dL_1553 : decode code 1553 = .ok (.aload_n 1, 1) := by decide +kernel
theorem dL_1554 : decode code 1554 = .ok (.aload_n 0, 1) := by decide +kernel
theorem dL_1555 : decode code 1555 = .ok (.iload_n 3, 1) := by decide +kernel
theorem dL_1556 : decode code 1556 = .ok (.iconst 1, 1) := by decide +kernel
theorem dL_1557 : decode code 1557 = .ok (.iadd, 1) := by decide +kernel
theorem dL_1558 : decode code 1558 = .ok (.iaload, 1) := by decide +kernel
theorem dL_1559 : decode code 1559 = .ok (.aload_n 0, 1) := by decide +kernel
theorem dL_1560 : decode code 1560 = .ok (.iload_n 3, 1) := by decide +kernel
theorem dL_1561 : decode code 1561 = .ok (.iconst 2, 1) := by decide +kernel
theorem dL_1562 : decode code 1562 = .ok (.iadd, 1) := by decide +kernel
theorem dL_1563 : decode code 1563 = .ok (.iaload, 1) := by decide +kernel
theorem dL_1564 : decode code 1564 = .ok (.aload_n 0, 1) := by decide +kernel
theorem dL_1565 : decode code 1565 = .ok (.iload_n 3, 1) := by decide +kernel
theorem dL_1566 : decode code 1566 = .ok (.iconst 3, 1) := by decide +kernel
theorem dL_1567 : decode code 1567 = .ok (.iadd, 1) := by decide +kernel
theorem dL_1568 : decode code 1568 = .ok (.iaload, 1) := by decide +kernel
theorem dL_1569 : decode code 1569 = .ok (.invokevirtual 201, 3) := by decide +kernel
theorem dL_1572 : decode code 1572 = .ok (.aload_n 2, 1) := by decide +kernel
theorem dL_1573 : decode code 1573 = .ok (.aload_n 0, 1) := by decide +kernel
theorem dL_1574 : decode code 1574 = .ok (.iload_n 3, 1) := by decide +kernel
theorem dL_1575 : decode code 1575 = .ok (.iconst 1, 1) := by decide +kernel
theorem dL_1576 : decode code 1576 = .ok (.iadd, 1) := by decide +kernel
theorem dL_1577 : decode code 1577 = .ok (.iaload, 1) := by decide +kernel
theorem dL_1578 : decode code 1578 = .ok (.aload_n 0, 1) := by decide +kernel
theorem dL_1579 : decode code 1579 = .ok (.iload_n 3, 1) := by decide +kernel
theorem dL_1580 : decode code 1580 = .ok (.iconst 2, 1) := by decide +kernel
theorem dL_1581 : decode code 1581 = .ok (.iadd, 1) := by decide +kernel
theorem dL_1582 : decode code 1582 = .ok (.iaload, 1) := by decide +kernel
theorem dL_1583 : decode code 1583 = .ok (.aload_n 0, 1) := by decide +kernel
theorem dL_1584 : decode code 1584 = .ok (.iload_n 3, 1) := by decide +kernel
theorem dL_1585 : decode code 1585 = .ok (.iconst 3, 1) := by decide +kernel
theorem dL_1586 : decode code 1586 = .ok (.iadd, 1) := by decide +kernel
theorem dL_1587 : decode code 1587 = .ok (.iaload, 1) := by decide +kernel
theorem dL_1588 : decode code 1588 = .ok (.invokevirtual 204, 3) := by decide +kernel
theorem dL_1591 : decode code 1591 = .ok (.if_icmp .eq 77, 3) := by decide +kernel
theorem dL_1594 : decode code 1594 = .ok (.iconst 0, 1) := by decide +kernel
theorem dL_1595 : decode code 1595 = .ok (.ireturn, 1) := by decide +kernel
theorem dL_1596 : decode code 1596 = .ok (.aload_n 1, 1) := by decide +kernel
theorem dL_1597 : decode code 1597 = .ok (.aload_n 0, 1) := by decide +kernel
theorem dL_1598 : decode code 1598 = .ok (.iload_n 3, 1) := by decide +kernel
theorem dL_1599 : decode code 1599 = .ok (.iconst 1, 1) := by decide +kernel
theorem dL_1600 : decode code 1600 = .ok (.iadd, 1) := by decide +kernel
theorem dL_1601 : decode code 1601 = .ok (.iaload, 1) := by decide +kernel
theorem dL_1602 : decode code 1602 = .ok (.invokevirtual 205, 3) := by decide +kernel
theorem dL_1605 : decode code 1605 = .ok (.aload_n 2, 1) := by decide +kernel
theorem dL_1606 : decode code 1606 = .ok (.aload_n 0, 1) := by decide +kernel
theorem dL_1607 : decode code 1607 = .ok (.iload_n 3, 1) := by decide +kernel
theorem dL_1608 : decode code 1608 = .ok (.iconst 1, 1) := by decide +kernel
theorem dL_1609 : decode code 1609 = .ok (.iadd, 1) := by decide +kernel
theorem dL_1610 : decode code 1610 = .ok (.iaload, 1) := by decide +kernel
theorem dL_1611 : decode code 1611 = .ok (.invokevirtual 208, 3) := by decide +kernel
theorem dL_1614 : decode code 1614 = .ok (.if_icmp .eq 54, 3) := by decide +kernel
theorem dL_1617 : decode code 1617 = .ok (.iconst 0, 1) := by decide +kernel
theorem dL_1618 : decode code 1618 = .ok (.ireturn, 1) := by decide +kernel
theorem dL_1619 : decode code 1619 = .ok (.aload_n 1, 1) := by decide +kernel
theorem dL_1620 : decode code 1620 = .ok (.aload_n 0, 1) := by decide +kernel
theorem dL_1621 : decode code 1621 = .ok (.iload_n 3, 1) := by decide +kernel
theorem dL_1622 : decode code 1622 = .ok (.iconst 1, 1) := by decide +kernel
theorem dL_1623 : decode code 1623 = .ok (.iadd, 1) := by decide +kernel
theorem dL_1624 : decode code 1624 = .ok (.iaload, 1) := by decide +kernel
theorem dL_1625 : decode code 1625 = .ok (.invokevirtual 209, 3) := by decide +kernel
theorem dL_1628 : decode code 1628 = .ok (.aload_n 2, 1) := by decide +kernel
theorem dL_1629 : decode code 1629 = .ok (.aload_n 0, 1) := by decide +kernel
theorem dL_1630 : decode code 1630 = .ok (.iload_n 3, 1) := by decide +kernel
theorem dL_1631 : decode code 1631 = .ok (.iconst 1, 1) := by decide +kernel
theorem dL_1632 : decode code 1632 = .ok (.iadd, 1) := by decide +kernel
theorem dL_1633 : decode code 1633 = .ok (.iaload, 1) := by decide +kernel
theorem dL_1634 : decode code 1634 = .ok (.invokevirtual 212, 3) := by decide +kernel
theorem dL_1637 : decode code 1637 = .ok (.if_icmp .eq 31, 3) := by decide +kernel
theorem dL_1640 : decode code 1640 = .ok (.iconst 0, 1) := by decide +kernel
theorem dL_1641 : decode code 1641 = .ok (.ireturn, 1) := by decide +kernel
theorem dL_1642 : decode code 1642 = .ok (.aload_n 1, 1) := by decide +kernel
theorem dL_1643 : decode code 1643 = .ok (.invokevirtual 213, 3) := by decide +kernel
theorem dL_1646 : decode code 1646 = .ok (.aload_n 2, 1) := by decide +kernel
theorem dL_1647 : decode code 1647 = .ok (.invokevirtual 216, 3) := by decide +kernel
theorem dL_1650 : decode code 1650 = .ok (.if_icmp .eq 18, 3) := by decide +kernel
theorem dL_1653 : decode code 1653 = .ok (.iconst 0, 1) := by decide +kernel
theorem dL_1654 : decode code 1654 = .ok (.ireturn, 1) := by decide +kernel
theorem dL_1655 : decode code 1655 = .ok (.aload_n 1, 1) := by decide +kernel
theorem dL_1656 : decode code 1656 = .ok (.invokevirtual 217, 3) := by decide +kernel
theorem dL_1659 : decode code 1659 = .ok (.aload_n 2, 1) := by decide +kernel
theorem dL_1660 : decode code 1660 = .ok (.invokevirtual 220, 3) := by decide +kernel
theorem dL_1663 : decode code 1663 = .ok (.if_icmp .eq 5, 3) := by decide +kernel
theorem dL_1666 : decode code 1666 = .ok (.iconst 0, 1) := by decide +kernel
theorem dL_1667 : decode code 1667 = .ok (.ireturn, 1) := by decide +kernel
theorem dL_1668 : decode code 1668 = .ok (.iinc 3 5, 3) := by decide +kernel
theorem dL_1671 : decode code 1671 = .ok (.goto (-1653), 3) := by decide +kernel
theorem dL_1674 : decode code 1674 = .ok (.iconst 1, 1) := by decide +kernel
theorem dL_1675 : decode code 1675 = .ok (.ireturn, 1) := by decide +kernel
