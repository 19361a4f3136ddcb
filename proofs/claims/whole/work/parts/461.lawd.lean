/-! ===== the law: its instructions ===== -/
theorem zd_law_236 : decode code 236 = .ok (.aload_n 1, 1) := by decide +kernel
theorem zd_law_237 : decode code 237 = .ok (.aload_n 0, 1) := by decide +kernel
theorem zd_law_238 : decode code 238 = .ok (.iload 4, 2) := by decide +kernel
theorem zd_law_240 : decode code 240 = .ok (.iconst 1, 1) := by decide +kernel
theorem zd_law_241 : decode code 241 = .ok (.iadd, 1) := by decide +kernel
theorem zd_law_242 : decode code 242 = .ok (.iaload, 1) := by decide +kernel
theorem zd_law_243 : decode code 243 = .ok (.aload_n 0, 1) := by decide +kernel
theorem zd_law_244 : decode code 244 = .ok (.iload 4, 2) := by decide +kernel
theorem zd_law_246 : decode code 246 = .ok (.iconst 2, 1) := by decide +kernel
theorem zd_law_247 : decode code 247 = .ok (.iadd, 1) := by decide +kernel
theorem zd_law_248 : decode code 248 = .ok (.iaload, 1) := by decide +kernel
theorem zd_law_249 : decode code 249 = .ok (.aload_n 0, 1) := by decide +kernel
theorem zd_law_250 : decode code 250 = .ok (.iload 4, 2) := by decide +kernel
theorem zd_law_252 : decode code 252 = .ok (.iconst 3, 1) := by decide +kernel
theorem zd_law_253 : decode code 253 = .ok (.iadd, 1) := by decide +kernel
theorem zd_law_254 : decode code 254 = .ok (.iaload, 1) := by decide +kernel
theorem zd_law_255 : decode code 255 = .ok (.aload_n 0, 1) := by decide +kernel
theorem zd_law_256 : decode code 256 = .ok (.iload 4, 2) := by decide +kernel
theorem zd_law_258 : decode code 258 = .ok (.iconst 4, 1) := by decide +kernel
theorem zd_law_259 : decode code 259 = .ok (.iadd, 1) := by decide +kernel
theorem zd_law_260 : decode code 260 = .ok (.iaload, 1) := by decide +kernel
theorem zd_law_261 : decode code 261 = .ok (.invokevirtual 21, 3) := by decide +kernel
theorem zd_law_264 : decode code 264 = .ok (.aload_n 2, 1) := by decide +kernel
theorem zd_law_265 : decode code 265 = .ok (.aload_n 0, 1) := by decide +kernel
theorem zd_law_266 : decode code 266 = .ok (.iload 4, 2) := by decide +kernel
theorem zd_law_268 : decode code 268 = .ok (.iconst 1, 1) := by decide +kernel
theorem zd_law_269 : decode code 269 = .ok (.iadd, 1) := by decide +kernel
theorem zd_law_270 : decode code 270 = .ok (.iaload, 1) := by decide +kernel
theorem zd_law_271 : decode code 271 = .ok (.aload_n 0, 1) := by decide +kernel
theorem zd_law_272 : decode code 272 = .ok (.iload 4, 2) := by decide +kernel
theorem zd_law_274 : decode code 274 = .ok (.iconst 2, 1) := by decide +kernel
theorem zd_law_275 : decode code 275 = .ok (.iadd, 1) := by decide +kernel
theorem zd_law_276 : decode code 276 = .ok (.iaload, 1) := by decide +kernel
theorem zd_law_277 : decode code 277 = .ok (.aload_n 0, 1) := by decide +kernel
theorem zd_law_278 : decode code 278 = .ok (.iload 4, 2) := by decide +kernel
theorem zd_law_280 : decode code 280 = .ok (.iconst 3, 1) := by decide +kernel
theorem zd_law_281 : decode code 281 = .ok (.iadd, 1) := by decide +kernel
theorem zd_law_282 : decode code 282 = .ok (.iaload, 1) := by decide +kernel
theorem zd_law_283 : decode code 283 = .ok (.aload_n 0, 1) := by decide +kernel
theorem zd_law_284 : decode code 284 = .ok (.iload 4, 2) := by decide +kernel
theorem zd_law_286 : decode code 286 = .ok (.iconst 4, 1) := by decide +kernel
theorem zd_law_287 : decode code 287 = .ok (.iadd, 1) := by decide +kernel
theorem zd_law_288 : decode code 288 = .ok (.iaload, 1) := by decide +kernel
theorem zd_law_289 : decode code 289 = .ok (.invokevirtual 25, 3) := by decide +kernel
theorem zd_law_292 : decode code 292 = .ok (.if_icmp .eq 1647, 3) := by decide +kernel
theorem zd_law_297 : decode code 297 = .ok (.aload_n 1, 1) := by decide +kernel
theorem zd_law_298 : decode code 298 = .ok (.aload_n 0, 1) := by decide +kernel
theorem zd_law_299 : decode code 299 = .ok (.iload 4, 2) := by decide +kernel
theorem zd_law_301 : decode code 301 = .ok (.iconst 1, 1) := by decide +kernel
theorem zd_law_302 : decode code 302 = .ok (.iadd, 1) := by decide +kernel
theorem zd_law_303 : decode code 303 = .ok (.iaload, 1) := by decide +kernel
theorem zd_law_304 : decode code 304 = .ok (.aload_n 0, 1) := by decide +kernel
theorem zd_law_305 : decode code 305 = .ok (.iload 4, 2) := by decide +kernel
theorem zd_law_307 : decode code 307 = .ok (.iconst 2, 1) := by decide +kernel
theorem zd_law_308 : decode code 308 = .ok (.iadd, 1) := by decide +kernel
theorem zd_law_309 : decode code 309 = .ok (.iaload, 1) := by decide +kernel
theorem zd_law_310 : decode code 310 = .ok (.aload_n 0, 1) := by decide +kernel
theorem zd_law_311 : decode code 311 = .ok (.iload 4, 2) := by decide +kernel
theorem zd_law_313 : decode code 313 = .ok (.iconst 3, 1) := by decide +kernel
theorem zd_law_314 : decode code 314 = .ok (.iadd, 1) := by decide +kernel
theorem zd_law_315 : decode code 315 = .ok (.iaload, 1) := by decide +kernel
theorem zd_law_316 : decode code 316 = .ok (.aload_n 0, 1) := by decide +kernel
theorem zd_law_317 : decode code 317 = .ok (.iload 4, 2) := by decide +kernel
theorem zd_law_319 : decode code 319 = .ok (.iconst 4, 1) := by decide +kernel
theorem zd_law_320 : decode code 320 = .ok (.iadd, 1) := by decide +kernel
theorem zd_law_321 : decode code 321 = .ok (.iaload, 1) := by decide +kernel
theorem zd_law_322 : decode code 322 = .ok (.invokevirtual 26, 3) := by decide +kernel
theorem zd_law_325 : decode code 325 = .ok (.aload_n 2, 1) := by decide +kernel
theorem zd_law_326 : decode code 326 = .ok (.aload_n 0, 1) := by decide +kernel
theorem zd_law_327 : decode code 327 = .ok (.iload 4, 2) := by decide +kernel
theorem zd_law_329 : decode code 329 = .ok (.iconst 1, 1) := by decide +kernel
theorem zd_law_330 : decode code 330 = .ok (.iadd, 1) := by decide +kernel
theorem zd_law_331 : decode code 331 = .ok (.iaload, 1) := by decide +kernel
theorem zd_law_332 : decode code 332 = .ok (.aload_n 0, 1) := by decide +kernel
theorem zd_law_333 : decode code 333 = .ok (.iload 4, 2) := by decide +kernel
theorem zd_law_335 : decode code 335 = .ok (.iconst 2, 1) := by decide +kernel
theorem zd_law_336 : decode code 336 = .ok (.iadd, 1) := by decide +kernel
theorem zd_law_337 : decode code 337 = .ok (.iaload, 1) := by decide +kernel
theorem zd_law_338 : decode code 338 = .ok (.aload_n 0, 1) := by decide +kernel
theorem zd_law_339 : decode code 339 = .ok (.iload 4, 2) := by decide +kernel
theorem zd_law_341 : decode code 341 = .ok (.iconst 3, 1) := by decide +kernel
theorem zd_law_342 : decode code 342 = .ok (.iadd, 1) := by decide +kernel
theorem zd_law_343 : decode code 343 = .ok (.iaload, 1) := by decide +kernel
theorem zd_law_344 : decode code 344 = .ok (.aload_n 0, 1) := by decide +kernel
theorem zd_law_345 : decode code 345 = .ok (.iload 4, 2) := by decide +kernel
theorem zd_law_347 : decode code 347 = .ok (.iconst 4, 1) := by decide +kernel
theorem zd_law_348 : decode code 348 = .ok (.iadd, 1) := by decide +kernel
theorem zd_law_349 : decode code 349 = .ok (.iaload, 1) := by decide +kernel
theorem zd_law_350 : decode code 350 = .ok (.invokevirtual 29, 3) := by decide +kernel
theorem zd_law_353 : decode code 353 = .ok (.if_icmp .eq 1586, 3) := by decide +kernel
theorem zd_law_358 : decode code 358 = .ok (.aload_n 1, 1) := by decide +kernel
theorem zd_law_359 : decode code 359 = .ok (.aload_n 0, 1) := by decide +kernel
theorem zd_law_360 : decode code 360 = .ok (.iload 4, 2) := by decide +kernel
theorem zd_law_362 : decode code 362 = .ok (.iconst 1, 1) := by decide +kernel
theorem zd_law_363 : decode code 363 = .ok (.iadd, 1) := by decide +kernel
theorem zd_law_364 : decode code 364 = .ok (.iaload, 1) := by decide +kernel
theorem zd_law_365 : decode code 365 = .ok (.invokevirtual 30, 3) := by decide +kernel
theorem zd_law_368 : decode code 368 = .ok (.aload_n 2, 1) := by decide +kernel
theorem zd_law_369 : decode code 369 = .ok (.aload_n 0, 1) := by decide +kernel
theorem zd_law_370 : decode code 370 = .ok (.iload 4, 2) := by decide +kernel
theorem zd_law_372 : decode code 372 = .ok (.iconst 1, 1) := by decide +kernel
theorem zd_law_373 : decode code 373 = .ok (.iadd, 1) := by decide +kernel
theorem zd_law_374 : decode code 374 = .ok (.iaload, 1) := by decide +kernel
theorem zd_law_375 : decode code 375 = .ok (.invokevirtual 34, 3) := by decide +kernel
theorem zd_law_378 : decode code 378 = .ok (.if_icmp .eq 1561, 3) := by decide +kernel
theorem zd_law_383 : decode code 383 = .ok (.aload_n 1, 1) := by decide +kernel
theorem zd_law_384 : decode code 384 = .ok (.aload_n 0, 1) := by decide +kernel
theorem zd_law_385 : decode code 385 = .ok (.iload 4, 2) := by decide +kernel
theorem zd_law_387 : decode code 387 = .ok (.iconst 1, 1) := by decide +kernel
theorem zd_law_388 : decode code 388 = .ok (.iadd, 1) := by decide +kernel
theorem zd_law_389 : decode code 389 = .ok (.iaload, 1) := by decide +kernel
theorem zd_law_390 : decode code 390 = .ok (.invokevirtual 35, 3) := by decide +kernel
theorem zd_law_393 : decode code 393 = .ok (.aload_n 2, 1) := by decide +kernel
theorem zd_law_394 : decode code 394 = .ok (.aload_n 0, 1) := by decide +kernel
theorem zd_law_395 : decode code 395 = .ok (.iload 4, 2) := by decide +kernel
theorem zd_law_397 : decode code 397 = .ok (.iconst 1, 1) := by decide +kernel
theorem zd_law_398 : decode code 398 = .ok (.iadd, 1) := by decide +kernel
theorem zd_law_399 : decode code 399 = .ok (.iaload, 1) := by decide +kernel
theorem zd_law_400 : decode code 400 = .ok (.invokevirtual 38, 3) := by decide +kernel
theorem zd_law_403 : decode code 403 = .ok (.if_icmp .eq 1536, 3) := by decide +kernel
theorem zd_law_408 : decode code 408 = .ok (.aload_n 1, 1) := by decide +kernel
theorem zd_law_409 : decode code 409 = .ok (.aload_n 0, 1) := by decide +kernel
theorem zd_law_410 : decode code 410 = .ok (.iload 4, 2) := by decide +kernel
theorem zd_law_412 : decode code 412 = .ok (.iconst 1, 1) := by decide +kernel
theorem zd_law_413 : decode code 413 = .ok (.iadd, 1) := by decide +kernel
theorem zd_law_414 : decode code 414 = .ok (.iaload, 1) := by decide +kernel
theorem zd_law_415 : decode code 415 = .ok (.invokevirtual 39, 3) := by decide +kernel
theorem zd_law_418 : decode code 418 = .ok (.aload_n 2, 1) := by decide +kernel
theorem zd_law_419 : decode code 419 = .ok (.aload_n 0, 1) := by decide +kernel
theorem zd_law_420 : decode code 420 = .ok (.iload 4, 2) := by decide +kernel
theorem zd_law_422 : decode code 422 = .ok (.iconst 1, 1) := by decide +kernel
theorem zd_law_423 : decode code 423 = .ok (.iadd, 1) := by decide +kernel
theorem zd_law_424 : decode code 424 = .ok (.iaload, 1) := by decide +kernel
theorem zd_law_425 : decode code 425 = .ok (.invokevirtual 42, 3) := by decide +kernel
theorem zd_law_428 : decode code 428 = .ok (.if_icmp .eq 1511, 3) := by decide +kernel
theorem zd_law_433 : decode code 433 = .ok (.aload_n 1, 1) := by decide +kernel
theorem zd_law_434 : decode code 434 = .ok (.aload_n 0, 1) := by decide +kernel
theorem zd_law_435 : decode code 435 = .ok (.iload 4, 2) := by decide +kernel
theorem zd_law_437 : decode code 437 = .ok (.iconst 1, 1) := by decide +kernel
theorem zd_law_438 : decode code 438 = .ok (.iadd, 1) := by decide +kernel
theorem zd_law_439 : decode code 439 = .ok (.iaload, 1) := by decide +kernel
theorem zd_law_440 : decode code 440 = .ok (.aload_n 0, 1) := by decide +kernel
theorem zd_law_441 : decode code 441 = .ok (.iload 4, 2) := by decide +kernel
theorem zd_law_443 : decode code 443 = .ok (.iconst 2, 1) := by decide +kernel
theorem zd_law_444 : decode code 444 = .ok (.iadd, 1) := by decide +kernel
theorem zd_law_445 : decode code 445 = .ok (.iaload, 1) := by decide +kernel
theorem zd_law_446 : decode code 446 = .ok (.aload_n 0, 1) := by decide +kernel
theorem zd_law_447 : decode code 447 = .ok (.iload 4, 2) := by decide +kernel
theorem zd_law_449 : decode code 449 = .ok (.iconst 3, 1) := by decide +kernel
theorem zd_law_450 : decode code 450 = .ok (.iadd, 1) := by decide +kernel
theorem zd_law_451 : decode code 451 = .ok (.iaload, 1) := by decide +kernel
theorem zd_law_452 : decode code 452 = .ok (.ifCond .eq 7, 3) := by decide +kernel
theorem zd_law_455 : decode code 455 = .ok (.iconst 1, 1) := by decide +kernel
theorem zd_law_456 : decode code 456 = .ok (.goto 4, 3) := by decide +kernel
theorem zd_law_459 : decode code 459 = .ok (.iconst 0, 1) := by decide +kernel
theorem zd_law_460 : decode code 460 = .ok (.invokevirtual 43, 3) := by decide +kernel
theorem zd_law_463 : decode code 463 = .ok (.aload_n 2, 1) := by decide +kernel
theorem zd_law_464 : decode code 464 = .ok (.aload_n 0, 1) := by decide +kernel
theorem zd_law_465 : decode code 465 = .ok (.iload 4, 2) := by decide +kernel
theorem zd_law_467 : decode code 467 = .ok (.iconst 1, 1) := by decide +kernel
theorem zd_law_468 : decode code 468 = .ok (.iadd, 1) := by decide +kernel
theorem zd_law_469 : decode code 469 = .ok (.iaload, 1) := by decide +kernel
theorem zd_law_470 : decode code 470 = .ok (.aload_n 0, 1) := by decide +kernel
theorem zd_law_471 : decode code 471 = .ok (.iload 4, 2) := by decide +kernel
theorem zd_law_473 : decode code 473 = .ok (.iconst 2, 1) := by decide +kernel
theorem zd_law_474 : decode code 474 = .ok (.iadd, 1) := by decide +kernel
theorem zd_law_475 : decode code 475 = .ok (.iaload, 1) := by decide +kernel
theorem zd_law_476 : decode code 476 = .ok (.aload_n 0, 1) := by decide +kernel
theorem zd_law_477 : decode code 477 = .ok (.iload 4, 2) := by decide +kernel
theorem zd_law_479 : decode code 479 = .ok (.iconst 3, 1) := by decide +kernel
theorem zd_law_480 : decode code 480 = .ok (.iadd, 1) := by decide +kernel
theorem zd_law_481 : decode code 481 = .ok (.iaload, 1) := by decide +kernel
theorem zd_law_482 : decode code 482 = .ok (.ifCond .eq 7, 3) := by decide +kernel
theorem zd_law_485 : decode code 485 = .ok (.iconst 1, 1) := by decide +kernel
theorem zd_law_486 : decode code 486 = .ok (.goto 4, 3) := by decide +kernel
theorem zd_law_489 : decode code 489 = .ok (.iconst 0, 1) := by decide +kernel
theorem zd_law_490 : decode code 490 = .ok (.invokevirtual 47, 3) := by decide +kernel
theorem zd_law_493 : decode code 493 = .ok (.if_icmp .eq 1446, 3) := by decide +kernel
theorem zd_law_498 : decode code 498 = .ok (.aload_n 1, 1) := by decide +kernel
theorem zd_law_499 : decode code 499 = .ok (.aload_n 0, 1) := by decide +kernel
theorem zd_law_500 : decode code 500 = .ok (.iload 4, 2) := by decide +kernel
theorem zd_law_502 : decode code 502 = .ok (.iconst 1, 1) := by decide +kernel
theorem zd_law_503 : decode code 503 = .ok (.iadd, 1) := by decide +kernel
theorem zd_law_504 : decode code 504 = .ok (.iaload, 1) := by decide +kernel
theorem zd_law_505 : decode code 505 = .ok (.aload_n 0, 1) := by decide +kernel
theorem zd_law_506 : decode code 506 = .ok (.iload 4, 2) := by decide +kernel
theorem zd_law_508 : decode code 508 = .ok (.iconst 2, 1) := by decide +kernel
theorem zd_law_509 : decode code 509 = .ok (.iadd, 1) := by decide +kernel
theorem zd_law_510 : decode code 510 = .ok (.iaload, 1) := by decide +kernel
theorem zd_law_511 : decode code 511 = .ok (.invokevirtual 48, 3) := by decide +kernel
theorem zd_law_514 : decode code 514 = .ok (.aload_n 2, 1) := by decide +kernel
theorem zd_law_515 : decode code 515 = .ok (.aload_n 0, 1) := by decide +kernel
theorem zd_law_516 : decode code 516 = .ok (.iload 4, 2) := by decide +kernel
theorem zd_law_518 : decode code 518 = .ok (.iconst 1, 1) := by decide +kernel
theorem zd_law_519 : decode code 519 = .ok (.iadd, 1) := by decide +kernel
theorem zd_law_520 : decode code 520 = .ok (.iaload, 1) := by decide +kernel
theorem zd_law_521 : decode code 521 = .ok (.aload_n 0, 1) := by decide +kernel
theorem zd_law_522 : decode code 522 = .ok (.iload 4, 2) := by decide +kernel
theorem zd_law_524 : decode code 524 = .ok (.iconst 2, 1) := by decide +kernel
theorem zd_law_525 : decode code 525 = .ok (.iadd, 1) := by decide +kernel
theorem zd_law_526 : decode code 526 = .ok (.iaload, 1) := by decide +kernel
theorem zd_law_527 : decode code 527 = .ok (.invokevirtual 52, 3) := by decide +kernel
theorem zd_law_530 : decode code 530 = .ok (.if_icmp .eq 1409, 3) := by decide +kernel
theorem zd_law_535 : decode code 535 = .ok (.aload_n 1, 1) := by decide +kernel
theorem zd_law_536 : decode code 536 = .ok (.aload_n 0, 1) := by decide +kernel
theorem zd_law_537 : decode code 537 = .ok (.iload 4, 2) := by decide +kernel
theorem zd_law_539 : decode code 539 = .ok (.iconst 1, 1) := by decide +kernel
theorem zd_law_540 : decode code 540 = .ok (.iadd, 1) := by decide +kernel
theorem zd_law_541 : decode code 541 = .ok (.iaload, 1) := by decide +kernel
theorem zd_law_542 : decode code 542 = .ok (.aload_n 0, 1) := by decide +kernel
theorem zd_law_543 : decode code 543 = .ok (.iload 4, 2) := by decide +kernel
theorem zd_law_545 : decode code 545 = .ok (.iconst 2, 1) := by decide +kernel
theorem zd_law_546 : decode code 546 = .ok (.iadd, 1) := by decide +kernel
theorem zd_law_547 : decode code 547 = .ok (.iaload, 1) := by decide +kernel
theorem zd_law_548 : decode code 548 = .ok (.aload_n 0, 1) := by decide +kernel
theorem zd_law_549 : decode code 549 = .ok (.iload 4, 2) := by decide +kernel
theorem zd_law_551 : decode code 551 = .ok (.iconst 3, 1) := by decide +kernel
theorem zd_law_552 : decode code 552 = .ok (.iadd, 1) := by decide +kernel
theorem zd_law_553 : decode code 553 = .ok (.iaload, 1) := by decide +kernel
theorem zd_law_554 : decode code 554 = .ok (.invokevirtual 53, 3) := by decide +kernel
theorem zd_law_557 : decode code 557 = .ok (.aload_n 2, 1) := by decide +kernel
theorem zd_law_558 : decode code 558 = .ok (.aload_n 0, 1) := by decide +kernel
theorem zd_law_559 : decode code 559 = .ok (.iload 4, 2) := by decide +kernel
theorem zd_law_561 : decode code 561 = .ok (.iconst 1, 1) := by decide +kernel
theorem zd_law_562 : decode code 562 = .ok (.iadd, 1) := by decide +kernel
theorem zd_law_563 : decode code 563 = .ok (.iaload, 1) := by decide +kernel
theorem zd_law_564 : decode code 564 = .ok (.aload_n 0, 1) := by decide +kernel
theorem zd_law_565 : decode code 565 = .ok (.iload 4, 2) := by decide +kernel
theorem zd_law_567 : decode code 567 = .ok (.iconst 2, 1) := by decide +kernel
theorem zd_law_568 : decode code 568 = .ok (.iadd, 1) := by decide +kernel
theorem zd_law_569 : decode code 569 = .ok (.iaload, 1) := by decide +kernel
theorem zd_law_570 : decode code 570 = .ok (.aload_n 0, 1) := by decide +kernel
theorem zd_law_571 : decode code 571 = .ok (.iload 4, 2) := by decide +kernel
theorem zd_law_573 : decode code 573 = .ok (.iconst 3, 1) := by decide +kernel
theorem zd_law_574 : decode code 574 = .ok (.iadd, 1) := by decide +kernel
theorem zd_law_575 : decode code 575 = .ok (.iaload, 1) := by decide +kernel
theorem zd_law_576 : decode code 576 = .ok (.invokevirtual 57, 3) := by decide +kernel
theorem zd_law_579 : decode code 579 = .ok (.if_icmp .eq 1360, 3) := by decide +kernel
theorem zd_law_584 : decode code 584 = .ok (.aload_n 1, 1) := by decide +kernel
theorem zd_law_585 : decode code 585 = .ok (.aload_n 0, 1) := by decide +kernel
theorem zd_law_586 : decode code 586 = .ok (.iload 4, 2) := by decide +kernel
theorem zd_law_588 : decode code 588 = .ok (.iconst 1, 1) := by decide +kernel
theorem zd_law_589 : decode code 589 = .ok (.iadd, 1) := by decide +kernel
theorem zd_law_590 : decode code 590 = .ok (.iaload, 1) := by decide +kernel
theorem zd_law_591 : decode code 591 = .ok (.aload_n 0, 1) := by decide +kernel
theorem zd_law_592 : decode code 592 = .ok (.iload 4, 2) := by decide +kernel
theorem zd_law_594 : decode code 594 = .ok (.iconst 2, 1) := by decide +kernel
theorem zd_law_595 : decode code 595 = .ok (.iadd, 1) := by decide +kernel
theorem zd_law_596 : decode code 596 = .ok (.iaload, 1) := by decide +kernel
theorem zd_law_597 : decode code 597 = .ok (.invokevirtual 58, 3) := by decide +kernel
theorem zd_law_600 : decode code 600 = .ok (.aload_n 2, 1) := by decide +kernel
theorem zd_law_601 : decode code 601 = .ok (.aload_n 0, 1) := by decide +kernel
theorem zd_law_602 : decode code 602 = .ok (.iload 4, 2) := by decide +kernel
theorem zd_law_604 : decode code 604 = .ok (.iconst 1, 1) := by decide +kernel
theorem zd_law_605 : decode code 605 = .ok (.iadd, 1) := by decide +kernel
theorem zd_law_606 : decode code 606 = .ok (.iaload, 1) := by decide +kernel
theorem zd_law_607 : decode code 607 = .ok (.aload_n 0, 1) := by decide +kernel
theorem zd_law_608 : decode code 608 = .ok (.iload 4, 2) := by decide +kernel
theorem zd_law_610 : decode code 610 = .ok (.iconst 2, 1) := by decide +kernel
theorem zd_law_611 : decode code 611 = .ok (.iadd, 1) := by decide +kernel
theorem zd_law_612 : decode code 612 = .ok (.iaload, 1) := by decide +kernel
theorem zd_law_613 : decode code 613 = .ok (.invokevirtual 61, 3) := by decide +kernel
theorem zd_law_616 : decode code 616 = .ok (.if_icmp .eq 1323, 3) := by decide +kernel
theorem zd_law_621 : decode code 621 = .ok (.aload_n 1, 1) := by decide +kernel
theorem zd_law_622 : decode code 622 = .ok (.aload_n 0, 1) := by decide +kernel
theorem zd_law_623 : decode code 623 = .ok (.iload 4, 2) := by decide +kernel
theorem zd_law_625 : decode code 625 = .ok (.iconst 1, 1) := by decide +kernel
theorem zd_law_626 : decode code 626 = .ok (.iadd, 1) := by decide +kernel
theorem zd_law_627 : decode code 627 = .ok (.iaload, 1) := by decide +kernel
theorem zd_law_628 : decode code 628 = .ok (.aload_n 0, 1) := by decide +kernel
theorem zd_law_629 : decode code 629 = .ok (.iload 4, 2) := by decide +kernel
theorem zd_law_631 : decode code 631 = .ok (.iconst 2, 1) := by decide +kernel
theorem zd_law_632 : decode code 632 = .ok (.iadd, 1) := by decide +kernel
theorem zd_law_633 : decode code 633 = .ok (.iaload, 1) := by decide +kernel
theorem zd_law_634 : decode code 634 = .ok (.invokevirtual 62, 3) := by decide +kernel
theorem zd_law_637 : decode code 637 = .ok (.aload_n 2, 1) := by decide +kernel
theorem zd_law_638 : decode code 638 = .ok (.aload_n 0, 1) := by decide +kernel
theorem zd_law_639 : decode code 639 = .ok (.iload 4, 2) := by decide +kernel
theorem zd_law_641 : decode code 641 = .ok (.iconst 1, 1) := by decide +kernel
theorem zd_law_642 : decode code 642 = .ok (.iadd, 1) := by decide +kernel
theorem zd_law_643 : decode code 643 = .ok (.iaload, 1) := by decide +kernel
theorem zd_law_644 : decode code 644 = .ok (.aload_n 0, 1) := by decide +kernel
theorem zd_law_645 : decode code 645 = .ok (.iload 4, 2) := by decide +kernel
theorem zd_law_647 : decode code 647 = .ok (.iconst 2, 1) := by decide +kernel
theorem zd_law_648 : decode code 648 = .ok (.iadd, 1) := by decide +kernel
theorem zd_law_649 : decode code 649 = .ok (.iaload, 1) := by decide +kernel
theorem zd_law_650 : decode code 650 = .ok (.invokevirtual 65, 3) := by decide +kernel
theorem zd_law_653 : decode code 653 = .ok (.if_icmp .eq 1286, 3) := by decide +kernel
theorem zd_law_658 : decode code 658 = .ok (.aload_n 1, 1) := by decide +kernel
theorem zd_law_659 : decode code 659 = .ok (.aload_n 0, 1) := by decide +kernel
theorem zd_law_660 : decode code 660 = .ok (.iload 4, 2) := by decide +kernel
theorem zd_law_662 : decode code 662 = .ok (.iconst 1, 1) := by decide +kernel
theorem zd_law_663 : decode code 663 = .ok (.iadd, 1) := by decide +kernel
theorem zd_law_664 : decode code 664 = .ok (.iaload, 1) := by decide +kernel
theorem zd_law_665 : decode code 665 = .ok (.invokevirtual 66, 3) := by decide +kernel
theorem zd_law_668 : decode code 668 = .ok (.aload_n 2, 1) := by decide +kernel
theorem zd_law_669 : decode code 669 = .ok (.aload_n 0, 1) := by decide +kernel
theorem zd_law_670 : decode code 670 = .ok (.iload 4, 2) := by decide +kernel
theorem zd_law_672 : decode code 672 = .ok (.iconst 1, 1) := by decide +kernel
theorem zd_law_673 : decode code 673 = .ok (.iadd, 1) := by decide +kernel
theorem zd_law_674 : decode code 674 = .ok (.iaload, 1) := by decide +kernel
theorem zd_law_675 : decode code 675 = .ok (.invokevirtual 69, 3) := by decide +kernel
theorem zd_law_678 : decode code 678 = .ok (.if_icmp .eq 1261, 3) := by decide +kernel
theorem zd_law_683 : decode code 683 = .ok (.aload_n 1, 1) := by decide +kernel
theorem zd_law_684 : decode code 684 = .ok (.aload_n 0, 1) := by decide +kernel
theorem zd_law_685 : decode code 685 = .ok (.iload 4, 2) := by decide +kernel
theorem zd_law_687 : decode code 687 = .ok (.iconst 1, 1) := by decide +kernel
theorem zd_law_688 : decode code 688 = .ok (.iadd, 1) := by decide +kernel
theorem zd_law_689 : decode code 689 = .ok (.iaload, 1) := by decide +kernel
theorem zd_law_690 : decode code 690 = .ok (.aload_n 0, 1) := by decide +kernel
theorem zd_law_691 : decode code 691 = .ok (.iload 4, 2) := by decide +kernel
theorem zd_law_693 : decode code 693 = .ok (.iconst 2, 1) := by decide +kernel
theorem zd_law_694 : decode code 694 = .ok (.iadd, 1) := by decide +kernel
theorem zd_law_695 : decode code 695 = .ok (.iaload, 1) := by decide +kernel
theorem zd_law_696 : decode code 696 = .ok (.invokevirtual 70, 3) := by decide +kernel
theorem zd_law_699 : decode code 699 = .ok (.aload_n 2, 1) := by decide +kernel
theorem zd_law_700 : decode code 700 = .ok (.aload_n 0, 1) := by decide +kernel
theorem zd_law_701 : decode code 701 = .ok (.iload 4, 2) := by decide +kernel
theorem zd_law_703 : decode code 703 = .ok (.iconst 1, 1) := by decide +kernel
theorem zd_law_704 : decode code 704 = .ok (.iadd, 1) := by decide +kernel
theorem zd_law_705 : decode code 705 = .ok (.iaload, 1) := by decide +kernel
theorem zd_law_706 : decode code 706 = .ok (.aload_n 0, 1) := by decide +kernel
theorem zd_law_707 : decode code 707 = .ok (.iload 4, 2) := by decide +kernel
theorem zd_law_709 : decode code 709 = .ok (.iconst 2, 1) := by decide +kernel
theorem zd_law_710 : decode code 710 = .ok (.iadd, 1) := by decide +kernel
theorem zd_law_711 : decode code 711 = .ok (.iaload, 1) := by decide +kernel
theorem zd_law_712 : decode code 712 = .ok (.invokevirtual 73, 3) := by decide +kernel
theorem zd_law_715 : decode code 715 = .ok (.if_icmp .eq 1224, 3) := by decide +kernel
theorem zd_law_720 : decode code 720 = .ok (.aload_n 1, 1) := by decide +kernel
theorem zd_law_721 : decode code 721 = .ok (.aload_n 0, 1) := by decide +kernel
theorem zd_law_722 : decode code 722 = .ok (.iload 4, 2) := by decide +kernel
theorem zd_law_724 : decode code 724 = .ok (.iconst 1, 1) := by decide +kernel
theorem zd_law_725 : decode code 725 = .ok (.iadd, 1) := by decide +kernel
theorem zd_law_726 : decode code 726 = .ok (.iaload, 1) := by decide +kernel
theorem zd_law_727 : decode code 727 = .ok (.invokevirtual 74, 3) := by decide +kernel
theorem zd_law_730 : decode code 730 = .ok (.aload_n 2, 1) := by decide +kernel
theorem zd_law_731 : decode code 731 = .ok (.aload_n 0, 1) := by decide +kernel
theorem zd_law_732 : decode code 732 = .ok (.iload 4, 2) := by decide +kernel
theorem zd_law_734 : decode code 734 = .ok (.iconst 1, 1) := by decide +kernel
theorem zd_law_735 : decode code 735 = .ok (.iadd, 1) := by decide +kernel
theorem zd_law_736 : decode code 736 = .ok (.iaload, 1) := by decide +kernel
theorem zd_law_737 : decode code 737 = .ok (.invokevirtual 77, 3) := by decide +kernel
theorem zd_law_740 : decode code 740 = .ok (.if_icmp .eq 1199, 3) := by decide +kernel
theorem zd_law_745 : decode code 745 = .ok (.aload_n 1, 1) := by decide +kernel
theorem zd_law_746 : decode code 746 = .ok (.aload_n 0, 1) := by decide +kernel
theorem zd_law_747 : decode code 747 = .ok (.iload 4, 2) := by decide +kernel
theorem zd_law_749 : decode code 749 = .ok (.iconst 1, 1) := by decide +kernel
theorem zd_law_750 : decode code 750 = .ok (.iadd, 1) := by decide +kernel
theorem zd_law_751 : decode code 751 = .ok (.iaload, 1) := by decide +kernel
theorem zd_law_752 : decode code 752 = .ok (.aload_n 0, 1) := by decide +kernel
theorem zd_law_753 : decode code 753 = .ok (.iload 4, 2) := by decide +kernel
theorem zd_law_755 : decode code 755 = .ok (.iconst 2, 1) := by decide +kernel
theorem zd_law_756 : decode code 756 = .ok (.iadd, 1) := by decide +kernel
theorem zd_law_757 : decode code 757 = .ok (.iaload, 1) := by decide +kernel
theorem zd_law_758 : decode code 758 = .ok (.invokevirtual 78, 3) := by decide +kernel
theorem zd_law_761 : decode code 761 = .ok (.aload_n 2, 1) := by decide +kernel
theorem zd_law_762 : decode code 762 = .ok (.aload_n 0, 1) := by decide +kernel
theorem zd_law_763 : decode code 763 = .ok (.iload 4, 2) := by decide +kernel
theorem zd_law_765 : decode code 765 = .ok (.iconst 1, 1) := by decide +kernel
theorem zd_law_766 : decode code 766 = .ok (.iadd, 1) := by decide +kernel
theorem zd_law_767 : decode code 767 = .ok (.iaload, 1) := by decide +kernel
theorem zd_law_768 : decode code 768 = .ok (.aload_n 0, 1) := by decide +kernel
theorem zd_law_769 : decode code 769 = .ok (.iload 4, 2) := by decide +kernel
theorem zd_law_771 : decode code 771 = .ok (.iconst 2, 1) := by decide +kernel
theorem zd_law_772 : decode code 772 = .ok (.iadd, 1) := by decide +kernel
theorem zd_law_773 : decode code 773 = .ok (.iaload, 1) := by decide +kernel
theorem zd_law_774 : decode code 774 = .ok (.invokevirtual 81, 3) := by decide +kernel
theorem zd_law_777 : decode code 777 = .ok (.if_icmp .eq 1162, 3) := by decide +kernel
theorem zd_law_782 : decode code 782 = .ok (.aload_n 1, 1) := by decide +kernel
theorem zd_law_783 : decode code 783 = .ok (.aload_n 0, 1) := by decide +kernel
theorem zd_law_784 : decode code 784 = .ok (.iload 4, 2) := by decide +kernel
theorem zd_law_786 : decode code 786 = .ok (.iconst 1, 1) := by decide +kernel
theorem zd_law_787 : decode code 787 = .ok (.iadd, 1) := by decide +kernel
theorem zd_law_788 : decode code 788 = .ok (.iaload, 1) := by decide +kernel
theorem zd_law_789 : decode code 789 = .ok (.aload_n 0, 1) := by decide +kernel
theorem zd_law_790 : decode code 790 = .ok (.iload 4, 2) := by decide +kernel
theorem zd_law_792 : decode code 792 = .ok (.iconst 2, 1) := by decide +kernel
theorem zd_law_793 : decode code 793 = .ok (.iadd, 1) := by decide +kernel
theorem zd_law_794 : decode code 794 = .ok (.iaload, 1) := by decide +kernel
theorem zd_law_795 : decode code 795 = .ok (.invokevirtual 82, 3) := by decide +kernel
theorem zd_law_798 : decode code 798 = .ok (.aload_n 2, 1) := by decide +kernel
theorem zd_law_799 : decode code 799 = .ok (.aload_n 0, 1) := by decide +kernel
theorem zd_law_800 : decode code 800 = .ok (.iload 4, 2) := by decide +kernel
theorem zd_law_802 : decode code 802 = .ok (.iconst 1, 1) := by decide +kernel
theorem zd_law_803 : decode code 803 = .ok (.iadd, 1) := by decide +kernel
theorem zd_law_804 : decode code 804 = .ok (.iaload, 1) := by decide +kernel
theorem zd_law_805 : decode code 805 = .ok (.aload_n 0, 1) := by decide +kernel
theorem zd_law_806 : decode code 806 = .ok (.iload 4, 2) := by decide +kernel
theorem zd_law_808 : decode code 808 = .ok (.iconst 2, 1) := by decide +kernel
theorem zd_law_809 : decode code 809 = .ok (.iadd, 1) := by decide +kernel
theorem zd_law_810 : decode code 810 = .ok (.iaload, 1) := by decide +kernel
theorem zd_law_811 : decode code 811 = .ok (.invokevirtual 85, 3) := by decide +kernel
theorem zd_law_814 : decode code 814 = .ok (.if_icmp .eq 1125, 3) := by decide +kernel
theorem zd_law_819 : decode code 819 = .ok (.aload_n 1, 1) := by decide +kernel
theorem zd_law_820 : decode code 820 = .ok (.aload_n 0, 1) := by decide +kernel
theorem zd_law_821 : decode code 821 = .ok (.iload 4, 2) := by decide +kernel
theorem zd_law_823 : decode code 823 = .ok (.iconst 1, 1) := by decide +kernel
theorem zd_law_824 : decode code 824 = .ok (.iadd, 1) := by decide +kernel
theorem zd_law_825 : decode code 825 = .ok (.iaload, 1) := by decide +kernel
theorem zd_law_826 : decode code 826 = .ok (.aload_n 0, 1) := by decide +kernel
theorem zd_law_827 : decode code 827 = .ok (.iload 4, 2) := by decide +kernel
theorem zd_law_829 : decode code 829 = .ok (.iconst 2, 1) := by decide +kernel
theorem zd_law_830 : decode code 830 = .ok (.iadd, 1) := by decide +kernel
theorem zd_law_831 : decode code 831 = .ok (.iaload, 1) := by decide +kernel
theorem zd_law_832 : decode code 832 = .ok (.invokevirtual 86, 3) := by decide +kernel
theorem zd_law_835 : decode code 835 = .ok (.aload_n 2, 1) := by decide +kernel
theorem zd_law_836 : decode code 836 = .ok (.aload_n 0, 1) := by decide +kernel
theorem zd_law_837 : decode code 837 = .ok (.iload 4, 2) := by decide +kernel
theorem zd_law_839 : decode code 839 = .ok (.iconst 1, 1) := by decide +kernel
theorem zd_law_840 : decode code 840 = .ok (.iadd, 1) := by decide +kernel
theorem zd_law_841 : decode code 841 = .ok (.iaload, 1) := by decide +kernel
theorem zd_law_842 : decode code 842 = .ok (.aload_n 0, 1) := by decide +kernel
theorem zd_law_843 : decode code 843 = .ok (.iload 4, 2) := by decide +kernel
theorem zd_law_845 : decode code 845 = .ok (.iconst 2, 1) := by decide +kernel
theorem zd_law_846 : decode code 846 = .ok (.iadd, 1) := by decide +kernel
theorem zd_law_847 : decode code 847 = .ok (.iaload, 1) := by decide +kernel
theorem zd_law_848 : decode code 848 = .ok (.invokevirtual 89, 3) := by decide +kernel
theorem zd_law_851 : decode code 851 = .ok (.if_icmp .eq 1088, 3) := by decide +kernel
theorem zd_law_856 : decode code 856 = .ok (.aload_n 1, 1) := by decide +kernel
theorem zd_law_857 : decode code 857 = .ok (.aload_n 0, 1) := by decide +kernel
theorem zd_law_858 : decode code 858 = .ok (.iload 4, 2) := by decide +kernel
theorem zd_law_860 : decode code 860 = .ok (.iconst 1, 1) := by decide +kernel
theorem zd_law_861 : decode code 861 = .ok (.iadd, 1) := by decide +kernel
theorem zd_law_862 : decode code 862 = .ok (.iaload, 1) := by decide +kernel
theorem zd_law_863 : decode code 863 = .ok (.aload_n 0, 1) := by decide +kernel
theorem zd_law_864 : decode code 864 = .ok (.iload 4, 2) := by decide +kernel
theorem zd_law_866 : decode code 866 = .ok (.iconst 2, 1) := by decide +kernel
theorem zd_law_867 : decode code 867 = .ok (.iadd, 1) := by decide +kernel
theorem zd_law_868 : decode code 868 = .ok (.iaload, 1) := by decide +kernel
theorem zd_law_869 : decode code 869 = .ok (.invokevirtual 90, 3) := by decide +kernel
theorem zd_law_872 : decode code 872 = .ok (.aload_n 2, 1) := by decide +kernel
theorem zd_law_873 : decode code 873 = .ok (.aload_n 0, 1) := by decide +kernel
theorem zd_law_874 : decode code 874 = .ok (.iload 4, 2) := by decide +kernel
theorem zd_law_876 : decode code 876 = .ok (.iconst 1, 1) := by decide +kernel
theorem zd_law_877 : decode code 877 = .ok (.iadd, 1) := by decide +kernel
theorem zd_law_878 : decode code 878 = .ok (.iaload, 1) := by decide +kernel
theorem zd_law_879 : decode code 879 = .ok (.aload_n 0, 1) := by decide +kernel
theorem zd_law_880 : decode code 880 = .ok (.iload 4, 2) := by decide +kernel
theorem zd_law_882 : decode code 882 = .ok (.iconst 2, 1) := by decide +kernel
theorem zd_law_883 : decode code 883 = .ok (.iadd, 1) := by decide +kernel
theorem zd_law_884 : decode code 884 = .ok (.iaload, 1) := by decide +kernel
theorem zd_law_885 : decode code 885 = .ok (.invokevirtual 93, 3) := by decide +kernel
theorem zd_law_888 : decode code 888 = .ok (.if_icmp .eq 1051, 3) := by decide +kernel
theorem zd_law_893 : decode code 893 = .ok (.aload_n 1, 1) := by decide +kernel
theorem zd_law_894 : decode code 894 = .ok (.aload_n 0, 1) := by decide +kernel
theorem zd_law_895 : decode code 895 = .ok (.iload 4, 2) := by decide +kernel
theorem zd_law_897 : decode code 897 = .ok (.iconst 1, 1) := by decide +kernel
theorem zd_law_898 : decode code 898 = .ok (.iadd, 1) := by decide +kernel
theorem zd_law_899 : decode code 899 = .ok (.iaload, 1) := by decide +kernel
theorem zd_law_900 : decode code 900 = .ok (.aload_n 0, 1) := by decide +kernel
theorem zd_law_901 : decode code 901 = .ok (.iload 4, 2) := by decide +kernel
theorem zd_law_903 : decode code 903 = .ok (.iconst 2, 1) := by decide +kernel
theorem zd_law_904 : decode code 904 = .ok (.iadd, 1) := by decide +kernel
theorem zd_law_905 : decode code 905 = .ok (.iaload, 1) := by decide +kernel
theorem zd_law_906 : decode code 906 = .ok (.aload_n 0, 1) := by decide +kernel
theorem zd_law_907 : decode code 907 = .ok (.iload 4, 2) := by decide +kernel
theorem zd_law_909 : decode code 909 = .ok (.iconst 3, 1) := by decide +kernel
theorem zd_law_910 : decode code 910 = .ok (.iadd, 1) := by decide +kernel
theorem zd_law_911 : decode code 911 = .ok (.iaload, 1) := by decide +kernel
theorem zd_law_912 : decode code 912 = .ok (.invokevirtual 94, 3) := by decide +kernel
theorem zd_law_915 : decode code 915 = .ok (.aload_n 2, 1) := by decide +kernel
theorem zd_law_916 : decode code 916 = .ok (.aload_n 0, 1) := by decide +kernel
theorem zd_law_917 : decode code 917 = .ok (.iload 4, 2) := by decide +kernel
theorem zd_law_919 : decode code 919 = .ok (.iconst 1, 1) := by decide +kernel
theorem zd_law_920 : decode code 920 = .ok (.iadd, 1) := by decide +kernel
theorem zd_law_921 : decode code 921 = .ok (.iaload, 1) := by decide +kernel
theorem zd_law_922 : decode code 922 = .ok (.aload_n 0, 1) := by decide +kernel
theorem zd_law_923 : decode code 923 = .ok (.iload 4, 2) := by decide +kernel
theorem zd_law_925 : decode code 925 = .ok (.iconst 2, 1) := by decide +kernel
theorem zd_law_926 : decode code 926 = .ok (.iadd, 1) := by decide +kernel
theorem zd_law_927 : decode code 927 = .ok (.iaload, 1) := by decide +kernel
theorem zd_law_928 : decode code 928 = .ok (.aload_n 0, 1) := by decide +kernel
theorem zd_law_929 : decode code 929 = .ok (.iload 4, 2) := by decide +kernel
theorem zd_law_931 : decode code 931 = .ok (.iconst 3, 1) := by decide +kernel
theorem zd_law_932 : decode code 932 = .ok (.iadd, 1) := by decide +kernel
theorem zd_law_933 : decode code 933 = .ok (.iaload, 1) := by decide +kernel
theorem zd_law_934 : decode code 934 = .ok (.invokevirtual 97, 3) := by decide +kernel
theorem zd_law_937 : decode code 937 = .ok (.if_icmp .eq 1002, 3) := by decide +kernel
theorem zd_law_942 : decode code 942 = .ok (.aload_n 1, 1) := by decide +kernel
theorem zd_law_943 : decode code 943 = .ok (.aload_n 0, 1) := by decide +kernel
theorem zd_law_944 : decode code 944 = .ok (.iload 4, 2) := by decide +kernel
theorem zd_law_946 : decode code 946 = .ok (.iconst 1, 1) := by decide +kernel
theorem zd_law_947 : decode code 947 = .ok (.iadd, 1) := by decide +kernel
theorem zd_law_948 : decode code 948 = .ok (.iaload, 1) := by decide +kernel
theorem zd_law_949 : decode code 949 = .ok (.aload_n 0, 1) := by decide +kernel
theorem zd_law_950 : decode code 950 = .ok (.iload 4, 2) := by decide +kernel
theorem zd_law_952 : decode code 952 = .ok (.iconst 2, 1) := by decide +kernel
theorem zd_law_953 : decode code 953 = .ok (.iadd, 1) := by decide +kernel
theorem zd_law_954 : decode code 954 = .ok (.iaload, 1) := by decide +kernel
theorem zd_law_955 : decode code 955 = .ok (.ifCond .eq 7, 3) := by decide +kernel
theorem zd_law_958 : decode code 958 = .ok (.iconst 1, 1) := by decide +kernel
theorem zd_law_959 : decode code 959 = .ok (.goto 4, 3) := by decide +kernel
theorem zd_law_962 : decode code 962 = .ok (.iconst 0, 1) := by decide +kernel
theorem zd_law_963 : decode code 963 = .ok (.invokevirtual 98, 3) := by decide +kernel
theorem zd_law_966 : decode code 966 = .ok (.aload_n 2, 1) := by decide +kernel
theorem zd_law_967 : decode code 967 = .ok (.aload_n 0, 1) := by decide +kernel
theorem zd_law_968 : decode code 968 = .ok (.iload 4, 2) := by decide +kernel
theorem zd_law_970 : decode code 970 = .ok (.iconst 1, 1) := by decide +kernel
theorem zd_law_971 : decode code 971 = .ok (.iadd, 1) := by decide +kernel
theorem zd_law_972 : decode code 972 = .ok (.iaload, 1) := by decide +kernel
theorem zd_law_973 : decode code 973 = .ok (.aload_n 0, 1) := by decide +kernel
theorem zd_law_974 : decode code 974 = .ok (.iload 4, 2) := by decide +kernel
theorem zd_law_976 : decode code 976 = .ok (.iconst 2, 1) := by decide +kernel
theorem zd_law_977 : decode code 977 = .ok (.iadd, 1) := by decide +kernel
theorem zd_law_978 : decode code 978 = .ok (.iaload, 1) := by decide +kernel
theorem zd_law_979 : decode code 979 = .ok (.ifCond .eq 7, 3) := by decide +kernel
theorem zd_law_982 : decode code 982 = .ok (.iconst 1, 1) := by decide +kernel
theorem zd_law_983 : decode code 983 = .ok (.goto 4, 3) := by decide +kernel
theorem zd_law_986 : decode code 986 = .ok (.iconst 0, 1) := by decide +kernel
theorem zd_law_987 : decode code 987 = .ok (.invokevirtual 102, 3) := by decide +kernel
theorem zd_law_990 : decode code 990 = .ok (.if_icmp .eq 949, 3) := by decide +kernel
theorem zd_law_995 : decode code 995 = .ok (.aload_n 1, 1) := by decide +kernel
theorem zd_law_996 : decode code 996 = .ok (.aload_n 0, 1) := by decide +kernel
theorem zd_law_997 : decode code 997 = .ok (.iload 4, 2) := by decide +kernel
theorem zd_law_999 : decode code 999 = .ok (.iconst 1, 1) := by decide +kernel
theorem zd_law_1000 : decode code 1000 = .ok (.iadd, 1) := by decide +kernel
theorem zd_law_1001 : decode code 1001 = .ok (.iaload, 1) := by decide +kernel
theorem zd_law_1002 : decode code 1002 = .ok (.aload_n 0, 1) := by decide +kernel
theorem zd_law_1003 : decode code 1003 = .ok (.iload 4, 2) := by decide +kernel
theorem zd_law_1005 : decode code 1005 = .ok (.iconst 2, 1) := by decide +kernel
theorem zd_law_1006 : decode code 1006 = .ok (.iadd, 1) := by decide +kernel
theorem zd_law_1007 : decode code 1007 = .ok (.iaload, 1) := by decide +kernel
theorem zd_law_1008 : decode code 1008 = .ok (.ifCond .eq 7, 3) := by decide +kernel
theorem zd_law_1011 : decode code 1011 = .ok (.iconst 1, 1) := by decide +kernel
theorem zd_law_1012 : decode code 1012 = .ok (.goto 4, 3) := by decide +kernel
theorem zd_law_1015 : decode code 1015 = .ok (.iconst 0, 1) := by decide +kernel
theorem zd_law_1016 : decode code 1016 = .ok (.invokevirtual 103, 3) := by decide +kernel
theorem zd_law_1019 : decode code 1019 = .ok (.aload_n 2, 1) := by decide +kernel
theorem zd_law_1020 : decode code 1020 = .ok (.aload_n 0, 1) := by decide +kernel
theorem zd_law_1021 : decode code 1021 = .ok (.iload 4, 2) := by decide +kernel
theorem zd_law_1023 : decode code 1023 = .ok (.iconst 1, 1) := by decide +kernel
theorem zd_law_1024 : decode code 1024 = .ok (.iadd, 1) := by decide +kernel
theorem zd_law_1025 : decode code 1025 = .ok (.iaload, 1) := by decide +kernel
theorem zd_law_1026 : decode code 1026 = .ok (.aload_n 0, 1) := by decide +kernel
theorem zd_law_1027 : decode code 1027 = .ok (.iload 4, 2) := by decide +kernel
theorem zd_law_1029 : decode code 1029 = .ok (.iconst 2, 1) := by decide +kernel
theorem zd_law_1030 : decode code 1030 = .ok (.iadd, 1) := by decide +kernel
theorem zd_law_1031 : decode code 1031 = .ok (.iaload, 1) := by decide +kernel
theorem zd_law_1032 : decode code 1032 = .ok (.ifCond .eq 7, 3) := by decide +kernel
theorem zd_law_1035 : decode code 1035 = .ok (.iconst 1, 1) := by decide +kernel
theorem zd_law_1036 : decode code 1036 = .ok (.goto 4, 3) := by decide +kernel
theorem zd_law_1039 : decode code 1039 = .ok (.iconst 0, 1) := by decide +kernel
theorem zd_law_1040 : decode code 1040 = .ok (.invokevirtual 106, 3) := by decide +kernel
theorem zd_law_1043 : decode code 1043 = .ok (.if_icmp .eq 896, 3) := by decide +kernel
theorem zd_law_1048 : decode code 1048 = .ok (.aload_n 1, 1) := by decide +kernel
theorem zd_law_1049 : decode code 1049 = .ok (.invokevirtual 107, 3) := by decide +kernel
theorem zd_law_1052 : decode code 1052 = .ok (.aload_n 2, 1) := by decide +kernel
theorem zd_law_1053 : decode code 1053 = .ok (.invokevirtual 111, 3) := by decide +kernel
theorem zd_law_1056 : decode code 1056 = .ok (.if_icmp .eq 883, 3) := by decide +kernel
theorem zd_law_1061 : decode code 1061 = .ok (.aload_n 1, 1) := by decide +kernel
theorem zd_law_1062 : decode code 1062 = .ok (.aload_n 0, 1) := by decide +kernel
theorem zd_law_1063 : decode code 1063 = .ok (.iload 4, 2) := by decide +kernel
theorem zd_law_1065 : decode code 1065 = .ok (.iconst 1, 1) := by decide +kernel
theorem zd_law_1066 : decode code 1066 = .ok (.iadd, 1) := by decide +kernel
theorem zd_law_1067 : decode code 1067 = .ok (.iaload, 1) := by decide +kernel
theorem zd_law_1068 : decode code 1068 = .ok (.aload_n 0, 1) := by decide +kernel
theorem zd_law_1069 : decode code 1069 = .ok (.iload 4, 2) := by decide +kernel
theorem zd_law_1071 : decode code 1071 = .ok (.iconst 2, 1) := by decide +kernel
theorem zd_law_1072 : decode code 1072 = .ok (.iadd, 1) := by decide +kernel
theorem zd_law_1073 : decode code 1073 = .ok (.iaload, 1) := by decide +kernel
theorem zd_law_1074 : decode code 1074 = .ok (.invokevirtual 112, 3) := by decide +kernel
theorem zd_law_1077 : decode code 1077 = .ok (.aload_n 2, 1) := by decide +kernel
theorem zd_law_1078 : decode code 1078 = .ok (.aload_n 0, 1) := by decide +kernel
theorem zd_law_1079 : decode code 1079 = .ok (.iload 4, 2) := by decide +kernel
theorem zd_law_1081 : decode code 1081 = .ok (.iconst 1, 1) := by decide +kernel
theorem zd_law_1082 : decode code 1082 = .ok (.iadd, 1) := by decide +kernel
theorem zd_law_1083 : decode code 1083 = .ok (.iaload, 1) := by decide +kernel
theorem zd_law_1084 : decode code 1084 = .ok (.aload_n 0, 1) := by decide +kernel
theorem zd_law_1085 : decode code 1085 = .ok (.iload 4, 2) := by decide +kernel
theorem zd_law_1087 : decode code 1087 = .ok (.iconst 2, 1) := by decide +kernel
theorem zd_law_1088 : decode code 1088 = .ok (.iadd, 1) := by decide +kernel
theorem zd_law_1089 : decode code 1089 = .ok (.iaload, 1) := by decide +kernel
theorem zd_law_1090 : decode code 1090 = .ok (.invokevirtual 115, 3) := by decide +kernel
theorem zd_law_1093 : decode code 1093 = .ok (.if_icmp .eq 846, 3) := by decide +kernel
theorem zd_law_1098 : decode code 1098 = .ok (.aload_n 1, 1) := by decide +kernel
theorem zd_law_1099 : decode code 1099 = .ok (.aload_n 0, 1) := by decide +kernel
theorem zd_law_1100 : decode code 1100 = .ok (.iload 4, 2) := by decide +kernel
theorem zd_law_1102 : decode code 1102 = .ok (.iconst 1, 1) := by decide +kernel
theorem zd_law_1103 : decode code 1103 = .ok (.iadd, 1) := by decide +kernel
theorem zd_law_1104 : decode code 1104 = .ok (.iaload, 1) := by decide +kernel
theorem zd_law_1105 : decode code 1105 = .ok (.aload_n 0, 1) := by decide +kernel
theorem zd_law_1106 : decode code 1106 = .ok (.iload 4, 2) := by decide +kernel
theorem zd_law_1108 : decode code 1108 = .ok (.iconst 2, 1) := by decide +kernel
theorem zd_law_1109 : decode code 1109 = .ok (.iadd, 1) := by decide +kernel
theorem zd_law_1110 : decode code 1110 = .ok (.iaload, 1) := by decide +kernel
theorem zd_law_1111 : decode code 1111 = .ok (.aload_n 0, 1) := by decide +kernel
theorem zd_law_1112 : decode code 1112 = .ok (.iload 4, 2) := by decide +kernel
theorem zd_law_1114 : decode code 1114 = .ok (.iconst 3, 1) := by decide +kernel
theorem zd_law_1115 : decode code 1115 = .ok (.iadd, 1) := by decide +kernel
theorem zd_law_1116 : decode code 1116 = .ok (.iaload, 1) := by decide +kernel
theorem zd_law_1117 : decode code 1117 = .ok (.invokevirtual 116, 3) := by decide +kernel
theorem zd_law_1120 : decode code 1120 = .ok (.aload_n 2, 1) := by decide +kernel
theorem zd_law_1121 : decode code 1121 = .ok (.aload_n 0, 1) := by decide +kernel
theorem zd_law_1122 : decode code 1122 = .ok (.iload 4, 2) := by decide +kernel
theorem zd_law_1124 : decode code 1124 = .ok (.iconst 1, 1) := by decide +kernel
theorem zd_law_1125 : decode code 1125 = .ok (.iadd, 1) := by decide +kernel
theorem zd_law_1126 : decode code 1126 = .ok (.iaload, 1) := by decide +kernel
theorem zd_law_1127 : decode code 1127 = .ok (.aload_n 0, 1) := by decide +kernel
theorem zd_law_1128 : decode code 1128 = .ok (.iload 4, 2) := by decide +kernel
theorem zd_law_1130 : decode code 1130 = .ok (.iconst 2, 1) := by decide +kernel
theorem zd_law_1131 : decode code 1131 = .ok (.iadd, 1) := by decide +kernel
theorem zd_law_1132 : decode code 1132 = .ok (.iaload, 1) := by decide +kernel
theorem zd_law_1133 : decode code 1133 = .ok (.aload_n 0, 1) := by decide +kernel
theorem zd_law_1134 : decode code 1134 = .ok (.iload 4, 2) := by decide +kernel
theorem zd_law_1136 : decode code 1136 = .ok (.iconst 3, 1) := by decide +kernel
theorem zd_law_1137 : decode code 1137 = .ok (.iadd, 1) := by decide +kernel
theorem zd_law_1138 : decode code 1138 = .ok (.iaload, 1) := by decide +kernel
theorem zd_law_1139 : decode code 1139 = .ok (.invokevirtual 119, 3) := by decide +kernel
theorem zd_law_1142 : decode code 1142 = .ok (.if_icmp .eq 797, 3) := by decide +kernel
theorem zd_law_1147 : decode code 1147 = .ok (.aload_n 1, 1) := by decide +kernel
theorem zd_law_1148 : decode code 1148 = .ok (.aload_n 0, 1) := by decide +kernel
theorem zd_law_1149 : decode code 1149 = .ok (.iload 4, 2) := by decide +kernel
theorem zd_law_1151 : decode code 1151 = .ok (.iconst 1, 1) := by decide +kernel
theorem zd_law_1152 : decode code 1152 = .ok (.iadd, 1) := by decide +kernel
theorem zd_law_1153 : decode code 1153 = .ok (.iaload, 1) := by decide +kernel
theorem zd_law_1154 : decode code 1154 = .ok (.aload_n 0, 1) := by decide +kernel
theorem zd_law_1155 : decode code 1155 = .ok (.iload 4, 2) := by decide +kernel
theorem zd_law_1157 : decode code 1157 = .ok (.iconst 2, 1) := by decide +kernel
theorem zd_law_1158 : decode code 1158 = .ok (.iadd, 1) := by decide +kernel
theorem zd_law_1159 : decode code 1159 = .ok (.iaload, 1) := by decide +kernel
theorem zd_law_1160 : decode code 1160 = .ok (.invokevirtual 120, 3) := by decide +kernel
theorem zd_law_1163 : decode code 1163 = .ok (.aload_n 2, 1) := by decide +kernel
theorem zd_law_1164 : decode code 1164 = .ok (.aload_n 0, 1) := by decide +kernel
theorem zd_law_1165 : decode code 1165 = .ok (.iload 4, 2) := by decide +kernel
theorem zd_law_1167 : decode code 1167 = .ok (.iconst 1, 1) := by decide +kernel
theorem zd_law_1168 : decode code 1168 = .ok (.iadd, 1) := by decide +kernel
theorem zd_law_1169 : decode code 1169 = .ok (.iaload, 1) := by decide +kernel
theorem zd_law_1170 : decode code 1170 = .ok (.aload_n 0, 1) := by decide +kernel
theorem zd_law_1171 : decode code 1171 = .ok (.iload 4, 2) := by decide +kernel
theorem zd_law_1173 : decode code 1173 = .ok (.iconst 2, 1) := by decide +kernel
theorem zd_law_1174 : decode code 1174 = .ok (.iadd, 1) := by decide +kernel
theorem zd_law_1175 : decode code 1175 = .ok (.iaload, 1) := by decide +kernel
theorem zd_law_1176 : decode code 1176 = .ok (.invokevirtual 123, 3) := by decide +kernel
theorem zd_law_1179 : decode code 1179 = .ok (.if_icmp .eq 760, 3) := by decide +kernel
theorem zd_law_1184 : decode code 1184 = .ok (.aload_n 1, 1) := by decide +kernel
theorem zd_law_1185 : decode code 1185 = .ok (.aload_n 0, 1) := by decide +kernel
theorem zd_law_1186 : decode code 1186 = .ok (.iload 4, 2) := by decide +kernel
theorem zd_law_1188 : decode code 1188 = .ok (.iconst 1, 1) := by decide +kernel
theorem zd_law_1189 : decode code 1189 = .ok (.iadd, 1) := by decide +kernel
theorem zd_law_1190 : decode code 1190 = .ok (.iaload, 1) := by decide +kernel
theorem zd_law_1191 : decode code 1191 = .ok (.invokevirtual 124, 3) := by decide +kernel
theorem zd_law_1194 : decode code 1194 = .ok (.aload_n 2, 1) := by decide +kernel
theorem zd_law_1195 : decode code 1195 = .ok (.aload_n 0, 1) := by decide +kernel
theorem zd_law_1196 : decode code 1196 = .ok (.iload 4, 2) := by decide +kernel
theorem zd_law_1198 : decode code 1198 = .ok (.iconst 1, 1) := by decide +kernel
theorem zd_law_1199 : decode code 1199 = .ok (.iadd, 1) := by decide +kernel
theorem zd_law_1200 : decode code 1200 = .ok (.iaload, 1) := by decide +kernel
theorem zd_law_1201 : decode code 1201 = .ok (.invokevirtual 127, 3) := by decide +kernel
theorem zd_law_1204 : decode code 1204 = .ok (.if_icmp .eq 735, 3) := by decide +kernel
theorem zd_law_1209 : decode code 1209 = .ok (.aload_n 1, 1) := by decide +kernel
theorem zd_law_1210 : decode code 1210 = .ok (.aload_n 0, 1) := by decide +kernel
theorem zd_law_1211 : decode code 1211 = .ok (.iload 4, 2) := by decide +kernel
theorem zd_law_1213 : decode code 1213 = .ok (.iconst 1, 1) := by decide +kernel
theorem zd_law_1214 : decode code 1214 = .ok (.iadd, 1) := by decide +kernel
theorem zd_law_1215 : decode code 1215 = .ok (.iaload, 1) := by decide +kernel
theorem zd_law_1216 : decode code 1216 = .ok (.aload_n 0, 1) := by decide +kernel
theorem zd_law_1217 : decode code 1217 = .ok (.iload 4, 2) := by decide +kernel
theorem zd_law_1219 : decode code 1219 = .ok (.iconst 2, 1) := by decide +kernel
theorem zd_law_1220 : decode code 1220 = .ok (.iadd, 1) := by decide +kernel
theorem zd_law_1221 : decode code 1221 = .ok (.iaload, 1) := by decide +kernel
theorem zd_law_1222 : decode code 1222 = .ok (.invokevirtual 128, 3) := by decide +kernel
theorem zd_law_1225 : decode code 1225 = .ok (.aload_n 2, 1) := by decide +kernel
theorem zd_law_1226 : decode code 1226 = .ok (.aload_n 0, 1) := by decide +kernel
theorem zd_law_1227 : decode code 1227 = .ok (.iload 4, 2) := by decide +kernel
theorem zd_law_1229 : decode code 1229 = .ok (.iconst 1, 1) := by decide +kernel
theorem zd_law_1230 : decode code 1230 = .ok (.iadd, 1) := by decide +kernel
theorem zd_law_1231 : decode code 1231 = .ok (.iaload, 1) := by decide +kernel
theorem zd_law_1232 : decode code 1232 = .ok (.aload_n 0, 1) := by decide +kernel
theorem zd_law_1233 : decode code 1233 = .ok (.iload 4, 2) := by decide +kernel
theorem zd_law_1235 : decode code 1235 = .ok (.iconst 2, 1) := by decide +kernel
theorem zd_law_1236 : decode code 1236 = .ok (.iadd, 1) := by decide +kernel
theorem zd_law_1237 : decode code 1237 = .ok (.iaload, 1) := by decide +kernel
theorem zd_law_1238 : decode code 1238 = .ok (.invokevirtual 131, 3) := by decide +kernel
theorem zd_law_1241 : decode code 1241 = .ok (.if_icmp .eq 698, 3) := by decide +kernel
theorem zd_law_1246 : decode code 1246 = .ok (.aload_n 1, 1) := by decide +kernel
theorem zd_law_1247 : decode code 1247 = .ok (.aload_n 0, 1) := by decide +kernel
theorem zd_law_1248 : decode code 1248 = .ok (.iload 4, 2) := by decide +kernel
theorem zd_law_1250 : decode code 1250 = .ok (.iconst 1, 1) := by decide +kernel
theorem zd_law_1251 : decode code 1251 = .ok (.iadd, 1) := by decide +kernel
theorem zd_law_1252 : decode code 1252 = .ok (.iaload, 1) := by decide +kernel
theorem zd_law_1253 : decode code 1253 = .ok (.invokevirtual 132, 3) := by decide +kernel
theorem zd_law_1256 : decode code 1256 = .ok (.aload_n 2, 1) := by decide +kernel
theorem zd_law_1257 : decode code 1257 = .ok (.aload_n 0, 1) := by decide +kernel
theorem zd_law_1258 : decode code 1258 = .ok (.iload 4, 2) := by decide +kernel
theorem zd_law_1260 : decode code 1260 = .ok (.iconst 1, 1) := by decide +kernel
theorem zd_law_1261 : decode code 1261 = .ok (.iadd, 1) := by decide +kernel
theorem zd_law_1262 : decode code 1262 = .ok (.iaload, 1) := by decide +kernel
theorem zd_law_1263 : decode code 1263 = .ok (.invokevirtual 135, 3) := by decide +kernel
theorem zd_law_1266 : decode code 1266 = .ok (.if_icmp .eq 673, 3) := by decide +kernel
theorem zd_law_1271 : decode code 1271 = .ok (.aload_n 1, 1) := by decide +kernel
theorem zd_law_1272 : decode code 1272 = .ok (.aload_n 0, 1) := by decide +kernel
theorem zd_law_1273 : decode code 1273 = .ok (.iload 4, 2) := by decide +kernel
theorem zd_law_1275 : decode code 1275 = .ok (.iconst 1, 1) := by decide +kernel
theorem zd_law_1276 : decode code 1276 = .ok (.iadd, 1) := by decide +kernel
theorem zd_law_1277 : decode code 1277 = .ok (.iaload, 1) := by decide +kernel
theorem zd_law_1278 : decode code 1278 = .ok (.invokevirtual 136, 3) := by decide +kernel
theorem zd_law_1281 : decode code 1281 = .ok (.aload_n 2, 1) := by decide +kernel
theorem zd_law_1282 : decode code 1282 = .ok (.aload_n 0, 1) := by decide +kernel
theorem zd_law_1283 : decode code 1283 = .ok (.iload 4, 2) := by decide +kernel
theorem zd_law_1285 : decode code 1285 = .ok (.iconst 1, 1) := by decide +kernel
theorem zd_law_1286 : decode code 1286 = .ok (.iadd, 1) := by decide +kernel
theorem zd_law_1287 : decode code 1287 = .ok (.iaload, 1) := by decide +kernel
theorem zd_law_1288 : decode code 1288 = .ok (.invokevirtual 139, 3) := by decide +kernel
theorem zd_law_1291 : decode code 1291 = .ok (.if_icmp .eq 648, 3) := by decide +kernel
theorem zd_law_1296 : decode code 1296 = .ok (.aload_n 1, 1) := by decide +kernel
theorem zd_law_1297 : decode code 1297 = .ok (.aload_n 0, 1) := by decide +kernel
theorem zd_law_1298 : decode code 1298 = .ok (.iload 4, 2) := by decide +kernel
theorem zd_law_1300 : decode code 1300 = .ok (.iconst 1, 1) := by decide +kernel
theorem zd_law_1301 : decode code 1301 = .ok (.iadd, 1) := by decide +kernel
theorem zd_law_1302 : decode code 1302 = .ok (.iaload, 1) := by decide +kernel
theorem zd_law_1303 : decode code 1303 = .ok (.aload_n 0, 1) := by decide +kernel
theorem zd_law_1304 : decode code 1304 = .ok (.iload 4, 2) := by decide +kernel
theorem zd_law_1306 : decode code 1306 = .ok (.iconst 2, 1) := by decide +kernel
theorem zd_law_1307 : decode code 1307 = .ok (.iadd, 1) := by decide +kernel
theorem zd_law_1308 : decode code 1308 = .ok (.iaload, 1) := by decide +kernel
theorem zd_law_1309 : decode code 1309 = .ok (.ifCond .eq 7, 3) := by decide +kernel
theorem zd_law_1312 : decode code 1312 = .ok (.iconst 1, 1) := by decide +kernel
theorem zd_law_1313 : decode code 1313 = .ok (.goto 4, 3) := by decide +kernel
theorem zd_law_1316 : decode code 1316 = .ok (.iconst 0, 1) := by decide +kernel
theorem zd_law_1317 : decode code 1317 = .ok (.invokevirtual 140, 3) := by decide +kernel
theorem zd_law_1320 : decode code 1320 = .ok (.aload_n 2, 1) := by decide +kernel
theorem zd_law_1321 : decode code 1321 = .ok (.aload_n 0, 1) := by decide +kernel
theorem zd_law_1322 : decode code 1322 = .ok (.iload 4, 2) := by decide +kernel
theorem zd_law_1324 : decode code 1324 = .ok (.iconst 1, 1) := by decide +kernel
theorem zd_law_1325 : decode code 1325 = .ok (.iadd, 1) := by decide +kernel
theorem zd_law_1326 : decode code 1326 = .ok (.iaload, 1) := by decide +kernel
theorem zd_law_1327 : decode code 1327 = .ok (.aload_n 0, 1) := by decide +kernel
theorem zd_law_1328 : decode code 1328 = .ok (.iload 4, 2) := by decide +kernel
theorem zd_law_1330 : decode code 1330 = .ok (.iconst 2, 1) := by decide +kernel
theorem zd_law_1331 : decode code 1331 = .ok (.iadd, 1) := by decide +kernel
theorem zd_law_1332 : decode code 1332 = .ok (.iaload, 1) := by decide +kernel
theorem zd_law_1333 : decode code 1333 = .ok (.ifCond .eq 7, 3) := by decide +kernel
theorem zd_law_1336 : decode code 1336 = .ok (.iconst 1, 1) := by decide +kernel
theorem zd_law_1337 : decode code 1337 = .ok (.goto 4, 3) := by decide +kernel
theorem zd_law_1340 : decode code 1340 = .ok (.iconst 0, 1) := by decide +kernel
theorem zd_law_1341 : decode code 1341 = .ok (.invokevirtual 143, 3) := by decide +kernel
theorem zd_law_1344 : decode code 1344 = .ok (.if_icmp .eq 595, 3) := by decide +kernel
theorem zd_law_1349 : decode code 1349 = .ok (.aload_n 1, 1) := by decide +kernel
theorem zd_law_1350 : decode code 1350 = .ok (.aload_n 0, 1) := by decide +kernel
theorem zd_law_1351 : decode code 1351 = .ok (.iload 4, 2) := by decide +kernel
theorem zd_law_1353 : decode code 1353 = .ok (.iconst 1, 1) := by decide +kernel
theorem zd_law_1354 : decode code 1354 = .ok (.iadd, 1) := by decide +kernel
theorem zd_law_1355 : decode code 1355 = .ok (.iaload, 1) := by decide +kernel
theorem zd_law_1356 : decode code 1356 = .ok (.aload_n 0, 1) := by decide +kernel
theorem zd_law_1357 : decode code 1357 = .ok (.iload 4, 2) := by decide +kernel
theorem zd_law_1359 : decode code 1359 = .ok (.iconst 2, 1) := by decide +kernel
theorem zd_law_1360 : decode code 1360 = .ok (.iadd, 1) := by decide +kernel
theorem zd_law_1361 : decode code 1361 = .ok (.iaload, 1) := by decide +kernel
theorem zd_law_1362 : decode code 1362 = .ok (.ifCond .eq 7, 3) := by decide +kernel
theorem zd_law_1365 : decode code 1365 = .ok (.iconst 1, 1) := by decide +kernel
theorem zd_law_1366 : decode code 1366 = .ok (.goto 4, 3) := by decide +kernel
theorem zd_law_1369 : decode code 1369 = .ok (.iconst 0, 1) := by decide +kernel
theorem zd_law_1370 : decode code 1370 = .ok (.invokevirtual 144, 3) := by decide +kernel
theorem zd_law_1373 : decode code 1373 = .ok (.aload_n 2, 1) := by decide +kernel
theorem zd_law_1374 : decode code 1374 = .ok (.aload_n 0, 1) := by decide +kernel
theorem zd_law_1375 : decode code 1375 = .ok (.iload 4, 2) := by decide +kernel
theorem zd_law_1377 : decode code 1377 = .ok (.iconst 1, 1) := by decide +kernel
theorem zd_law_1378 : decode code 1378 = .ok (.iadd, 1) := by decide +kernel
theorem zd_law_1379 : decode code 1379 = .ok (.iaload, 1) := by decide +kernel
theorem zd_law_1380 : decode code 1380 = .ok (.aload_n 0, 1) := by decide +kernel
theorem zd_law_1381 : decode code 1381 = .ok (.iload 4, 2) := by decide +kernel
theorem zd_law_1383 : decode code 1383 = .ok (.iconst 2, 1) := by decide +kernel
theorem zd_law_1384 : decode code 1384 = .ok (.iadd, 1) := by decide +kernel
theorem zd_law_1385 : decode code 1385 = .ok (.iaload, 1) := by decide +kernel
theorem zd_law_1386 : decode code 1386 = .ok (.ifCond .eq 7, 3) := by decide +kernel
theorem zd_law_1389 : decode code 1389 = .ok (.iconst 1, 1) := by decide +kernel
theorem zd_law_1390 : decode code 1390 = .ok (.goto 4, 3) := by decide +kernel
theorem zd_law_1393 : decode code 1393 = .ok (.iconst 0, 1) := by decide +kernel
theorem zd_law_1394 : decode code 1394 = .ok (.invokevirtual 147, 3) := by decide +kernel
theorem zd_law_1397 : decode code 1397 = .ok (.if_icmp .eq 542, 3) := by decide +kernel
theorem zd_law_1402 : decode code 1402 = .ok (.aload_n 1, 1) := by decide +kernel
theorem zd_law_1403 : decode code 1403 = .ok (.aload_n 0, 1) := by decide +kernel
theorem zd_law_1404 : decode code 1404 = .ok (.iload 4, 2) := by decide +kernel
theorem zd_law_1406 : decode code 1406 = .ok (.iconst 1, 1) := by decide +kernel
theorem zd_law_1407 : decode code 1407 = .ok (.iadd, 1) := by decide +kernel
theorem zd_law_1408 : decode code 1408 = .ok (.iaload, 1) := by decide +kernel
theorem zd_law_1409 : decode code 1409 = .ok (.invokevirtual 148, 3) := by decide +kernel
theorem zd_law_1412 : decode code 1412 = .ok (.aload_n 2, 1) := by decide +kernel
theorem zd_law_1413 : decode code 1413 = .ok (.aload_n 0, 1) := by decide +kernel
theorem zd_law_1414 : decode code 1414 = .ok (.iload 4, 2) := by decide +kernel
theorem zd_law_1416 : decode code 1416 = .ok (.iconst 1, 1) := by decide +kernel
theorem zd_law_1417 : decode code 1417 = .ok (.iadd, 1) := by decide +kernel
theorem zd_law_1418 : decode code 1418 = .ok (.iaload, 1) := by decide +kernel
theorem zd_law_1419 : decode code 1419 = .ok (.invokevirtual 151, 3) := by decide +kernel
theorem zd_law_1422 : decode code 1422 = .ok (.if_icmp .eq 517, 3) := by decide +kernel
theorem zd_law_1427 : decode code 1427 = .ok (.aload_n 1, 1) := by decide +kernel
theorem zd_law_1428 : decode code 1428 = .ok (.aload_n 0, 1) := by decide +kernel
theorem zd_law_1429 : decode code 1429 = .ok (.iload 4, 2) := by decide +kernel
theorem zd_law_1431 : decode code 1431 = .ok (.iconst 1, 1) := by decide +kernel
theorem zd_law_1432 : decode code 1432 = .ok (.iadd, 1) := by decide +kernel
theorem zd_law_1433 : decode code 1433 = .ok (.iaload, 1) := by decide +kernel
theorem zd_law_1434 : decode code 1434 = .ok (.aload_n 0, 1) := by decide +kernel
theorem zd_law_1435 : decode code 1435 = .ok (.iload 4, 2) := by decide +kernel
theorem zd_law_1437 : decode code 1437 = .ok (.iconst 2, 1) := by decide +kernel
theorem zd_law_1438 : decode code 1438 = .ok (.iadd, 1) := by decide +kernel
theorem zd_law_1439 : decode code 1439 = .ok (.iaload, 1) := by decide +kernel
theorem zd_law_1440 : decode code 1440 = .ok (.invokevirtual 152, 3) := by decide +kernel
theorem zd_law_1443 : decode code 1443 = .ok (.aload_n 2, 1) := by decide +kernel
theorem zd_law_1444 : decode code 1444 = .ok (.aload_n 0, 1) := by decide +kernel
theorem zd_law_1445 : decode code 1445 = .ok (.iload 4, 2) := by decide +kernel
theorem zd_law_1447 : decode code 1447 = .ok (.iconst 1, 1) := by decide +kernel
theorem zd_law_1448 : decode code 1448 = .ok (.iadd, 1) := by decide +kernel
theorem zd_law_1449 : decode code 1449 = .ok (.iaload, 1) := by decide +kernel
theorem zd_law_1450 : decode code 1450 = .ok (.aload_n 0, 1) := by decide +kernel
theorem zd_law_1451 : decode code 1451 = .ok (.iload 4, 2) := by decide +kernel
theorem zd_law_1453 : decode code 1453 = .ok (.iconst 2, 1) := by decide +kernel
theorem zd_law_1454 : decode code 1454 = .ok (.iadd, 1) := by decide +kernel
theorem zd_law_1455 : decode code 1455 = .ok (.iaload, 1) := by decide +kernel
theorem zd_law_1456 : decode code 1456 = .ok (.invokevirtual 155, 3) := by decide +kernel
theorem zd_law_1459 : decode code 1459 = .ok (.if_icmp .eq 480, 3) := by decide +kernel
theorem zd_law_1464 : decode code 1464 = .ok (.aload_n 1, 1) := by decide +kernel
theorem zd_law_1465 : decode code 1465 = .ok (.aload_n 0, 1) := by decide +kernel
theorem zd_law_1466 : decode code 1466 = .ok (.iload 4, 2) := by decide +kernel
theorem zd_law_1468 : decode code 1468 = .ok (.iconst 1, 1) := by decide +kernel
theorem zd_law_1469 : decode code 1469 = .ok (.iadd, 1) := by decide +kernel
theorem zd_law_1470 : decode code 1470 = .ok (.iaload, 1) := by decide +kernel
theorem zd_law_1471 : decode code 1471 = .ok (.aload_n 0, 1) := by decide +kernel
theorem zd_law_1472 : decode code 1472 = .ok (.iload 4, 2) := by decide +kernel
theorem zd_law_1474 : decode code 1474 = .ok (.iconst 2, 1) := by decide +kernel
theorem zd_law_1475 : decode code 1475 = .ok (.iadd, 1) := by decide +kernel
theorem zd_law_1476 : decode code 1476 = .ok (.iaload, 1) := by decide +kernel
theorem zd_law_1477 : decode code 1477 = .ok (.invokevirtual 156, 3) := by decide +kernel
theorem zd_law_1480 : decode code 1480 = .ok (.aload_n 2, 1) := by decide +kernel
theorem zd_law_1481 : decode code 1481 = .ok (.aload_n 0, 1) := by decide +kernel
theorem zd_law_1482 : decode code 1482 = .ok (.iload 4, 2) := by decide +kernel
theorem zd_law_1484 : decode code 1484 = .ok (.iconst 1, 1) := by decide +kernel
theorem zd_law_1485 : decode code 1485 = .ok (.iadd, 1) := by decide +kernel
theorem zd_law_1486 : decode code 1486 = .ok (.iaload, 1) := by decide +kernel
theorem zd_law_1487 : decode code 1487 = .ok (.aload_n 0, 1) := by decide +kernel
theorem zd_law_1488 : decode code 1488 = .ok (.iload 4, 2) := by decide +kernel
theorem zd_law_1490 : decode code 1490 = .ok (.iconst 2, 1) := by decide +kernel
theorem zd_law_1491 : decode code 1491 = .ok (.iadd, 1) := by decide +kernel
theorem zd_law_1492 : decode code 1492 = .ok (.iaload, 1) := by decide +kernel
theorem zd_law_1493 : decode code 1493 = .ok (.invokevirtual 159, 3) := by decide +kernel
theorem zd_law_1496 : decode code 1496 = .ok (.if_icmp .eq 443, 3) := by decide +kernel
theorem zd_law_1501 : decode code 1501 = .ok (.aload_n 1, 1) := by decide +kernel
theorem zd_law_1502 : decode code 1502 = .ok (.aload_n 0, 1) := by decide +kernel
theorem zd_law_1503 : decode code 1503 = .ok (.iload 4, 2) := by decide +kernel
theorem zd_law_1505 : decode code 1505 = .ok (.iconst 1, 1) := by decide +kernel
theorem zd_law_1506 : decode code 1506 = .ok (.iadd, 1) := by decide +kernel
theorem zd_law_1507 : decode code 1507 = .ok (.iaload, 1) := by decide +kernel
theorem zd_law_1508 : decode code 1508 = .ok (.aload_n 0, 1) := by decide +kernel
theorem zd_law_1509 : decode code 1509 = .ok (.iload 4, 2) := by decide +kernel
theorem zd_law_1511 : decode code 1511 = .ok (.iconst 2, 1) := by decide +kernel
theorem zd_law_1512 : decode code 1512 = .ok (.iadd, 1) := by decide +kernel
theorem zd_law_1513 : decode code 1513 = .ok (.iaload, 1) := by decide +kernel
theorem zd_law_1514 : decode code 1514 = .ok (.invokevirtual 160, 3) := by decide +kernel
theorem zd_law_1517 : decode code 1517 = .ok (.aload_n 2, 1) := by decide +kernel
theorem zd_law_1518 : decode code 1518 = .ok (.aload_n 0, 1) := by decide +kernel
theorem zd_law_1519 : decode code 1519 = .ok (.iload 4, 2) := by decide +kernel
theorem zd_law_1521 : decode code 1521 = .ok (.iconst 1, 1) := by decide +kernel
theorem zd_law_1522 : decode code 1522 = .ok (.iadd, 1) := by decide +kernel
theorem zd_law_1523 : decode code 1523 = .ok (.iaload, 1) := by decide +kernel
theorem zd_law_1524 : decode code 1524 = .ok (.aload_n 0, 1) := by decide +kernel
theorem zd_law_1525 : decode code 1525 = .ok (.iload 4, 2) := by decide +kernel
theorem zd_law_1527 : decode code 1527 = .ok (.iconst 2, 1) := by decide +kernel
theorem zd_law_1528 : decode code 1528 = .ok (.iadd, 1) := by decide +kernel
theorem zd_law_1529 : decode code 1529 = .ok (.iaload, 1) := by decide +kernel
theorem zd_law_1530 : decode code 1530 = .ok (.invokevirtual 163, 3) := by decide +kernel
theorem zd_law_1533 : decode code 1533 = .ok (.if_icmp .eq 406, 3) := by decide +kernel
theorem zd_law_1538 : decode code 1538 = .ok (.aload_n 1, 1) := by decide +kernel
theorem zd_law_1539 : decode code 1539 = .ok (.invokevirtual 164, 3) := by decide +kernel
theorem zd_law_1542 : decode code 1542 = .ok (.aload_n 2, 1) := by decide +kernel
theorem zd_law_1543 : decode code 1543 = .ok (.invokevirtual 167, 3) := by decide +kernel
theorem zd_law_1546 : decode code 1546 = .ok (.if_icmp .eq 393, 3) := by decide +kernel
theorem zd_law_1551 : decode code 1551 = .ok (.aload_n 1, 1) := by decide +kernel
theorem zd_law_1552 : decode code 1552 = .ok (.invokevirtual 168, 3) := by decide +kernel
theorem zd_law_1555 : decode code 1555 = .ok (.aload_n 2, 1) := by decide +kernel
theorem zd_law_1556 : decode code 1556 = .ok (.invokevirtual 171, 3) := by decide +kernel
theorem zd_law_1559 : decode code 1559 = .ok (.if_icmp .eq 380, 3) := by decide +kernel
theorem zd_law_1564 : decode code 1564 = .ok (.aload_n 1, 1) := by decide +kernel
theorem zd_law_1565 : decode code 1565 = .ok (.invokevirtual 172, 3) := by decide +kernel
theorem zd_law_1568 : decode code 1568 = .ok (.aload_n 2, 1) := by decide +kernel
theorem zd_law_1569 : decode code 1569 = .ok (.invokevirtual 175, 3) := by decide +kernel
theorem zd_law_1572 : decode code 1572 = .ok (.if_icmp .eq 367, 3) := by decide +kernel
theorem zd_law_1577 : decode code 1577 = .ok (.aload_n 1, 1) := by decide +kernel
theorem zd_law_1578 : decode code 1578 = .ok (.aload_n 0, 1) := by decide +kernel
theorem zd_law_1579 : decode code 1579 = .ok (.iload 4, 2) := by decide +kernel
theorem zd_law_1581 : decode code 1581 = .ok (.iconst 1, 1) := by decide +kernel
theorem zd_law_1582 : decode code 1582 = .ok (.iadd, 1) := by decide +kernel
theorem zd_law_1583 : decode code 1583 = .ok (.iaload, 1) := by decide +kernel
theorem zd_law_1584 : decode code 1584 = .ok (.invokevirtual 176, 3) := by decide +kernel
theorem zd_law_1587 : decode code 1587 = .ok (.aload_n 2, 1) := by decide +kernel
theorem zd_law_1588 : decode code 1588 = .ok (.aload_n 0, 1) := by decide +kernel
theorem zd_law_1589 : decode code 1589 = .ok (.iload 4, 2) := by decide +kernel
theorem zd_law_1591 : decode code 1591 = .ok (.iconst 1, 1) := by decide +kernel
theorem zd_law_1592 : decode code 1592 = .ok (.iadd, 1) := by decide +kernel
theorem zd_law_1593 : decode code 1593 = .ok (.iaload, 1) := by decide +kernel
theorem zd_law_1594 : decode code 1594 = .ok (.invokevirtual 179, 3) := by decide +kernel
theorem zd_law_1597 : decode code 1597 = .ok (.if_icmp .eq 342, 3) := by decide +kernel
theorem zd_law_1602 : decode code 1602 = .ok (.aload_n 1, 1) := by decide +kernel
theorem zd_law_1603 : decode code 1603 = .ok (.aload_n 0, 1) := by decide +kernel
theorem zd_law_1604 : decode code 1604 = .ok (.iload 4, 2) := by decide +kernel
theorem zd_law_1606 : decode code 1606 = .ok (.iconst 1, 1) := by decide +kernel
theorem zd_law_1607 : decode code 1607 = .ok (.iadd, 1) := by decide +kernel
theorem zd_law_1608 : decode code 1608 = .ok (.iaload, 1) := by decide +kernel
theorem zd_law_1609 : decode code 1609 = .ok (.aload_n 0, 1) := by decide +kernel
theorem zd_law_1610 : decode code 1610 = .ok (.iload 4, 2) := by decide +kernel
theorem zd_law_1612 : decode code 1612 = .ok (.iconst 2, 1) := by decide +kernel
theorem zd_law_1613 : decode code 1613 = .ok (.iadd, 1) := by decide +kernel
theorem zd_law_1614 : decode code 1614 = .ok (.iaload, 1) := by decide +kernel
theorem zd_law_1615 : decode code 1615 = .ok (.aload_n 0, 1) := by decide +kernel
theorem zd_law_1616 : decode code 1616 = .ok (.iload 4, 2) := by decide +kernel
theorem zd_law_1618 : decode code 1618 = .ok (.iconst 3, 1) := by decide +kernel
theorem zd_law_1619 : decode code 1619 = .ok (.iadd, 1) := by decide +kernel
theorem zd_law_1620 : decode code 1620 = .ok (.iaload, 1) := by decide +kernel
theorem zd_law_1621 : decode code 1621 = .ok (.invokevirtual 180, 3) := by decide +kernel
theorem zd_law_1624 : decode code 1624 = .ok (.aload_n 2, 1) := by decide +kernel
theorem zd_law_1625 : decode code 1625 = .ok (.aload_n 0, 1) := by decide +kernel
theorem zd_law_1626 : decode code 1626 = .ok (.iload 4, 2) := by decide +kernel
theorem zd_law_1628 : decode code 1628 = .ok (.iconst 1, 1) := by decide +kernel
theorem zd_law_1629 : decode code 1629 = .ok (.iadd, 1) := by decide +kernel
theorem zd_law_1630 : decode code 1630 = .ok (.iaload, 1) := by decide +kernel
theorem zd_law_1631 : decode code 1631 = .ok (.aload_n 0, 1) := by decide +kernel
theorem zd_law_1632 : decode code 1632 = .ok (.iload 4, 2) := by decide +kernel
theorem zd_law_1634 : decode code 1634 = .ok (.iconst 2, 1) := by decide +kernel
theorem zd_law_1635 : decode code 1635 = .ok (.iadd, 1) := by decide +kernel
theorem zd_law_1636 : decode code 1636 = .ok (.iaload, 1) := by decide +kernel
theorem zd_law_1637 : decode code 1637 = .ok (.aload_n 0, 1) := by decide +kernel
theorem zd_law_1638 : decode code 1638 = .ok (.iload 4, 2) := by decide +kernel
theorem zd_law_1640 : decode code 1640 = .ok (.iconst 3, 1) := by decide +kernel
theorem zd_law_1641 : decode code 1641 = .ok (.iadd, 1) := by decide +kernel
theorem zd_law_1642 : decode code 1642 = .ok (.iaload, 1) := by decide +kernel
theorem zd_law_1643 : decode code 1643 = .ok (.invokevirtual 183, 3) := by decide +kernel
theorem zd_law_1646 : decode code 1646 = .ok (.if_icmp .eq 293, 3) := by decide +kernel
theorem zd_law_1651 : decode code 1651 = .ok (.aload_n 1, 1) := by decide +kernel
theorem zd_law_1652 : decode code 1652 = .ok (.aload_n 0, 1) := by decide +kernel
theorem zd_law_1653 : decode code 1653 = .ok (.iload 4, 2) := by decide +kernel
theorem zd_law_1655 : decode code 1655 = .ok (.iconst 1, 1) := by decide +kernel
theorem zd_law_1656 : decode code 1656 = .ok (.iadd, 1) := by decide +kernel
theorem zd_law_1657 : decode code 1657 = .ok (.iaload, 1) := by decide +kernel
theorem zd_law_1658 : decode code 1658 = .ok (.aload_n 0, 1) := by decide +kernel
theorem zd_law_1659 : decode code 1659 = .ok (.iload 4, 2) := by decide +kernel
theorem zd_law_1661 : decode code 1661 = .ok (.iconst 2, 1) := by decide +kernel
theorem zd_law_1662 : decode code 1662 = .ok (.iadd, 1) := by decide +kernel
theorem zd_law_1663 : decode code 1663 = .ok (.iaload, 1) := by decide +kernel
theorem zd_law_1664 : decode code 1664 = .ok (.aload_n 0, 1) := by decide +kernel
theorem zd_law_1665 : decode code 1665 = .ok (.iload 4, 2) := by decide +kernel
theorem zd_law_1667 : decode code 1667 = .ok (.iconst 3, 1) := by decide +kernel
theorem zd_law_1668 : decode code 1668 = .ok (.iadd, 1) := by decide +kernel
theorem zd_law_1669 : decode code 1669 = .ok (.iaload, 1) := by decide +kernel
theorem zd_law_1670 : decode code 1670 = .ok (.invokevirtual 184, 3) := by decide +kernel
theorem zd_law_1673 : decode code 1673 = .ok (.aload_n 2, 1) := by decide +kernel
theorem zd_law_1674 : decode code 1674 = .ok (.aload_n 0, 1) := by decide +kernel
theorem zd_law_1675 : decode code 1675 = .ok (.iload 4, 2) := by decide +kernel
theorem zd_law_1677 : decode code 1677 = .ok (.iconst 1, 1) := by decide +kernel
theorem zd_law_1678 : decode code 1678 = .ok (.iadd, 1) := by decide +kernel
theorem zd_law_1679 : decode code 1679 = .ok (.iaload, 1) := by decide +kernel
theorem zd_law_1680 : decode code 1680 = .ok (.aload_n 0, 1) := by decide +kernel
theorem zd_law_1681 : decode code 1681 = .ok (.iload 4, 2) := by decide +kernel
theorem zd_law_1683 : decode code 1683 = .ok (.iconst 2, 1) := by decide +kernel
theorem zd_law_1684 : decode code 1684 = .ok (.iadd, 1) := by decide +kernel
theorem zd_law_1685 : decode code 1685 = .ok (.iaload, 1) := by decide +kernel
theorem zd_law_1686 : decode code 1686 = .ok (.aload_n 0, 1) := by decide +kernel
theorem zd_law_1687 : decode code 1687 = .ok (.iload 4, 2) := by decide +kernel
theorem zd_law_1689 : decode code 1689 = .ok (.iconst 3, 1) := by decide +kernel
theorem zd_law_1690 : decode code 1690 = .ok (.iadd, 1) := by decide +kernel
theorem zd_law_1691 : decode code 1691 = .ok (.iaload, 1) := by decide +kernel
theorem zd_law_1692 : decode code 1692 = .ok (.invokevirtual 187, 3) := by decide +kernel
theorem zd_law_1695 : decode code 1695 = .ok (.if_icmp .eq 244, 3) := by decide +kernel
theorem zd_law_1700 : decode code 1700 = .ok (.aload_n 1, 1) := by decide +kernel
theorem zd_law_1701 : decode code 1701 = .ok (.aload_n 0, 1) := by decide +kernel
theorem zd_law_1702 : decode code 1702 = .ok (.iload 4, 2) := by decide +kernel
theorem zd_law_1704 : decode code 1704 = .ok (.iconst 1, 1) := by decide +kernel
theorem zd_law_1705 : decode code 1705 = .ok (.iadd, 1) := by decide +kernel
theorem zd_law_1706 : decode code 1706 = .ok (.iaload, 1) := by decide +kernel
theorem zd_law_1707 : decode code 1707 = .ok (.aload_n 0, 1) := by decide +kernel
theorem zd_law_1708 : decode code 1708 = .ok (.iload 4, 2) := by decide +kernel
theorem zd_law_1710 : decode code 1710 = .ok (.iconst 2, 1) := by decide +kernel
theorem zd_law_1711 : decode code 1711 = .ok (.iadd, 1) := by decide +kernel
theorem zd_law_1712 : decode code 1712 = .ok (.iaload, 1) := by decide +kernel
theorem zd_law_1713 : decode code 1713 = .ok (.aload_n 0, 1) := by decide +kernel
theorem zd_law_1714 : decode code 1714 = .ok (.iload 4, 2) := by decide +kernel
theorem zd_law_1716 : decode code 1716 = .ok (.iconst 3, 1) := by decide +kernel
theorem zd_law_1717 : decode code 1717 = .ok (.iadd, 1) := by decide +kernel
theorem zd_law_1718 : decode code 1718 = .ok (.iaload, 1) := by decide +kernel
theorem zd_law_1719 : decode code 1719 = .ok (.invokevirtual 188, 3) := by decide +kernel
theorem zd_law_1722 : decode code 1722 = .ok (.aload_n 2, 1) := by decide +kernel
theorem zd_law_1723 : decode code 1723 = .ok (.aload_n 0, 1) := by decide +kernel
theorem zd_law_1724 : decode code 1724 = .ok (.iload 4, 2) := by decide +kernel
theorem zd_law_1726 : decode code 1726 = .ok (.iconst 1, 1) := by decide +kernel
theorem zd_law_1727 : decode code 1727 = .ok (.iadd, 1) := by decide +kernel
theorem zd_law_1728 : decode code 1728 = .ok (.iaload, 1) := by decide +kernel
theorem zd_law_1729 : decode code 1729 = .ok (.aload_n 0, 1) := by decide +kernel
theorem zd_law_1730 : decode code 1730 = .ok (.iload 4, 2) := by decide +kernel
theorem zd_law_1732 : decode code 1732 = .ok (.iconst 2, 1) := by decide +kernel
theorem zd_law_1733 : decode code 1733 = .ok (.iadd, 1) := by decide +kernel
theorem zd_law_1734 : decode code 1734 = .ok (.iaload, 1) := by decide +kernel
theorem zd_law_1735 : decode code 1735 = .ok (.aload_n 0, 1) := by decide +kernel
theorem zd_law_1736 : decode code 1736 = .ok (.iload 4, 2) := by decide +kernel
theorem zd_law_1738 : decode code 1738 = .ok (.iconst 3, 1) := by decide +kernel
theorem zd_law_1739 : decode code 1739 = .ok (.iadd, 1) := by decide +kernel
theorem zd_law_1740 : decode code 1740 = .ok (.iaload, 1) := by decide +kernel
theorem zd_law_1741 : decode code 1741 = .ok (.invokevirtual 191, 3) := by decide +kernel
theorem zd_law_1744 : decode code 1744 = .ok (.if_icmp .eq 195, 3) := by decide +kernel
theorem zd_law_1816 : decode code 1816 = .ok (.aload_n 1, 1) := by decide +kernel
theorem zd_law_1817 : decode code 1817 = .ok (.aload_n 0, 1) := by decide +kernel
theorem zd_law_1818 : decode code 1818 = .ok (.iload 4, 2) := by decide +kernel
theorem zd_law_1820 : decode code 1820 = .ok (.iconst 1, 1) := by decide +kernel
theorem zd_law_1821 : decode code 1821 = .ok (.iadd, 1) := by decide +kernel
theorem zd_law_1822 : decode code 1822 = .ok (.iaload, 1) := by decide +kernel
theorem zd_law_1823 : decode code 1823 = .ok (.aload_n 0, 1) := by decide +kernel
theorem zd_law_1824 : decode code 1824 = .ok (.iload 4, 2) := by decide +kernel
theorem zd_law_1826 : decode code 1826 = .ok (.iconst 2, 1) := by decide +kernel
theorem zd_law_1827 : decode code 1827 = .ok (.iadd, 1) := by decide +kernel
theorem zd_law_1828 : decode code 1828 = .ok (.iaload, 1) := by decide +kernel
theorem zd_law_1829 : decode code 1829 = .ok (.aload_n 0, 1) := by decide +kernel
theorem zd_law_1830 : decode code 1830 = .ok (.iload 4, 2) := by decide +kernel
theorem zd_law_1832 : decode code 1832 = .ok (.iconst 3, 1) := by decide +kernel
theorem zd_law_1833 : decode code 1833 = .ok (.iadd, 1) := by decide +kernel
theorem zd_law_1834 : decode code 1834 = .ok (.iaload, 1) := by decide +kernel
theorem zd_law_1835 : decode code 1835 = .ok (.aload_n 0, 1) := by decide +kernel
theorem zd_law_1836 : decode code 1836 = .ok (.iload 4, 2) := by decide +kernel
theorem zd_law_1838 : decode code 1838 = .ok (.iconst 4, 1) := by decide +kernel
theorem zd_law_1839 : decode code 1839 = .ok (.iadd, 1) := by decide +kernel
theorem zd_law_1840 : decode code 1840 = .ok (.iaload, 1) := by decide +kernel
theorem zd_law_1841 : decode code 1841 = .ok (.aload_n 0, 1) := by decide +kernel
theorem zd_law_1842 : decode code 1842 = .ok (.iload 4, 2) := by decide +kernel
theorem zd_law_1844 : decode code 1844 = .ok (.iconst 5, 1) := by decide +kernel
theorem zd_law_1845 : decode code 1845 = .ok (.iadd, 1) := by decide +kernel
theorem zd_law_1846 : decode code 1846 = .ok (.iaload, 1) := by decide +kernel
theorem zd_law_1847 : decode code 1847 = .ok (.invokevirtual 201, 3) := by decide +kernel
theorem zd_law_1850 : decode code 1850 = .ok (.aload_n 2, 1) := by decide +kernel
theorem zd_law_1851 : decode code 1851 = .ok (.aload_n 0, 1) := by decide +kernel
theorem zd_law_1852 : decode code 1852 = .ok (.iload 4, 2) := by decide +kernel
theorem zd_law_1854 : decode code 1854 = .ok (.iconst 1, 1) := by decide +kernel
theorem zd_law_1855 : decode code 1855 = .ok (.iadd, 1) := by decide +kernel
theorem zd_law_1856 : decode code 1856 = .ok (.iaload, 1) := by decide +kernel
theorem zd_law_1857 : decode code 1857 = .ok (.aload_n 0, 1) := by decide +kernel
theorem zd_law_1858 : decode code 1858 = .ok (.iload 4, 2) := by decide +kernel
theorem zd_law_1860 : decode code 1860 = .ok (.iconst 2, 1) := by decide +kernel
theorem zd_law_1861 : decode code 1861 = .ok (.iadd, 1) := by decide +kernel
theorem zd_law_1862 : decode code 1862 = .ok (.iaload, 1) := by decide +kernel
theorem zd_law_1863 : decode code 1863 = .ok (.aload_n 0, 1) := by decide +kernel
theorem zd_law_1864 : decode code 1864 = .ok (.iload 4, 2) := by decide +kernel
theorem zd_law_1866 : decode code 1866 = .ok (.iconst 3, 1) := by decide +kernel
theorem zd_law_1867 : decode code 1867 = .ok (.iadd, 1) := by decide +kernel
theorem zd_law_1868 : decode code 1868 = .ok (.iaload, 1) := by decide +kernel
theorem zd_law_1869 : decode code 1869 = .ok (.aload_n 0, 1) := by decide +kernel
theorem zd_law_1870 : decode code 1870 = .ok (.iload 4, 2) := by decide +kernel
theorem zd_law_1872 : decode code 1872 = .ok (.iconst 4, 1) := by decide +kernel
theorem zd_law_1873 : decode code 1873 = .ok (.iadd, 1) := by decide +kernel
theorem zd_law_1874 : decode code 1874 = .ok (.iaload, 1) := by decide +kernel
theorem zd_law_1875 : decode code 1875 = .ok (.aload_n 0, 1) := by decide +kernel
theorem zd_law_1876 : decode code 1876 = .ok (.iload 4, 2) := by decide +kernel
theorem zd_law_1878 : decode code 1878 = .ok (.iconst 5, 1) := by decide +kernel
theorem zd_law_1879 : decode code 1879 = .ok (.iadd, 1) := by decide +kernel
theorem zd_law_1880 : decode code 1880 = .ok (.iaload, 1) := by decide +kernel
theorem zd_law_1881 : decode code 1881 = .ok (.invokevirtual 205, 3) := by decide +kernel
theorem zd_law_1884 : decode code 1884 = .ok (.if_icmp .eq 55, 3) := by decide +kernel
theorem zd_law_1889 : decode code 1889 = .ok (.aload_n 1, 1) := by decide +kernel
theorem zd_law_1890 : decode code 1890 = .ok (.aload_n 0, 1) := by decide +kernel
theorem zd_law_1891 : decode code 1891 = .ok (.iload 4, 2) := by decide +kernel
theorem zd_law_1893 : decode code 1893 = .ok (.iconst 1, 1) := by decide +kernel
theorem zd_law_1894 : decode code 1894 = .ok (.iadd, 1) := by decide +kernel
theorem zd_law_1895 : decode code 1895 = .ok (.iaload, 1) := by decide +kernel
theorem zd_law_1896 : decode code 1896 = .ok (.invokevirtual 206, 3) := by decide +kernel
theorem zd_law_1899 : decode code 1899 = .ok (.aload_n 2, 1) := by decide +kernel
theorem zd_law_1900 : decode code 1900 = .ok (.aload_n 0, 1) := by decide +kernel
theorem zd_law_1901 : decode code 1901 = .ok (.iload 4, 2) := by decide +kernel
theorem zd_law_1903 : decode code 1903 = .ok (.iconst 1, 1) := by decide +kernel
theorem zd_law_1904 : decode code 1904 = .ok (.iadd, 1) := by decide +kernel
theorem zd_law_1905 : decode code 1905 = .ok (.iaload, 1) := by decide +kernel
theorem zd_law_1906 : decode code 1906 = .ok (.invokevirtual 209, 3) := by decide +kernel
theorem zd_law_1909 : decode code 1909 = .ok (.if_icmp .eq 30, 3) := by decide +kernel
theorem zd_law_1914 : decode code 1914 = .ok (.aload_n 1, 1) := by decide +kernel
theorem zd_law_1915 : decode code 1915 = .ok (.aload_n 0, 1) := by decide +kernel
theorem zd_law_1916 : decode code 1916 = .ok (.iload 4, 2) := by decide +kernel
theorem zd_law_1918 : decode code 1918 = .ok (.iconst 1, 1) := by decide +kernel
theorem zd_law_1919 : decode code 1919 = .ok (.iadd, 1) := by decide +kernel
theorem zd_law_1920 : decode code 1920 = .ok (.iaload, 1) := by decide +kernel
theorem zd_law_1921 : decode code 1921 = .ok (.invokevirtual 210, 3) := by decide +kernel
theorem zd_law_1924 : decode code 1924 = .ok (.aload_n 2, 1) := by decide +kernel
theorem zd_law_1925 : decode code 1925 = .ok (.aload_n 0, 1) := by decide +kernel
theorem zd_law_1926 : decode code 1926 = .ok (.iload 4, 2) := by decide +kernel
theorem zd_law_1928 : decode code 1928 = .ok (.iconst 1, 1) := by decide +kernel
theorem zd_law_1929 : decode code 1929 = .ok (.iadd, 1) := by decide +kernel
theorem zd_law_1930 : decode code 1930 = .ok (.iaload, 1) := by decide +kernel
theorem zd_law_1931 : decode code 1931 = .ok (.invokevirtual 213, 3) := by decide +kernel
theorem zd_law_1934 : decode code 1934 = .ok (.if_icmp .eq 5, 3) := by decide +kernel
