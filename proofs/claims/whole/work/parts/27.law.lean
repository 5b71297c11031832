/-! FareLimitsLaw law([I)Z -/
theorem dL_law_0 : decode code 0 = .ok (.new 7, 3) := by decide +kernel
theorem dL_law_3 : decode code 3 = .ok (.dup, 1) := by decide +kernel
theorem dL_law_4 : decode code 4 = .ok (.invokespecial 9, 3) := by decide +kernel
theorem dL_law_7 : decode code 7 = .ok (.astore_n 1, 1) := by decide +kernel
theorem dL_law_8 : decode code 8 = .ok (.new 10, 3) := by decide +kernel
theorem dL_law_11 : decode code 11 = .ok (.dup, 1) := by decide +kernel
theorem dL_law_12 : decode code 12 = .ok (.invokespecial 12, 3) := by decide +kernel
theorem dL_law_15 : decode code 15 = .ok (.astore_n 2, 1) := by decide +kernel
theorem dL_law_16 : decode code 16 = .ok (.iconst 0, 1) := by decide +kernel
theorem dL_law_17 : decode code 17 = .ok (.istore_n 3, 1) := by decide +kernel
theorem dL_law_18 : decode code 18 = .ok (.iload_n 3, 1) := by decide +kernel
theorem dL_law_19 : decode code 19 = .ok (.aload_n 0, 1) := by decide +kernel
theorem dL_law_20 : decode code 20 = .ok (.arraylength, 1) := by decide +kernel
theorem dL_law_21 : decode code 21 = .ok (.iconst 5, 1) := by decide +kernel
theorem dL_law_22 : decode code 22 = .ok (.isub, 1) := by decide +kernel
theorem dL_law_23 : decode code 23 = .ok (.if_icmp .gt 1731, 3) := by decide +kernel
theorem dL_law_26 : decode code 26 = .ok (.aload_n 0, 1) := by decide +kernel
theorem dL_law_27 : decode code 27 = .ok (.iload_n 3, 1) := by decide +kernel
theorem dL_law_28 : decode code 28 = .ok (.iaload, 1) := by decide +kernel
theorem dL_law_29 : decode code 29 = .ok (.bipush 63, 2) := by decide +kernel
theorem dL_law_31 : decode code 31 = .ok (.iand, 1) := by decide +kernel
theorem dL_law_32 : decode code 32 = .ok (.tableswitch 1716 0 46 #[204, 237, 270, 313, 326, 359, 383, 417, 450, 484, 517, 551, 594, 627, 660, 704, 738, 782, 815, 859, 902, 925, 938, 951, 964, 997, 1030, 1053, 1076, 1089, 1112, 1135, 1179, 1223, 1256, 1279, 1332, 1355, 1398, 1441, 1474, 1507, 1540, 1613, 1647, 1690, 1703], 204) := by decide +kernel
theorem dL_law_236 : decode code 236 = .ok (.aload_n 1, 1) := by decide +kernel
theorem dL_law_237 : decode code 237 = .ok (.aload_n 0, 1) := by decide +kernel
theorem dL_law_238 : decode code 238 = .ok (.iload_n 3, 1) := by decide +kernel
theorem dL_law_239 : decode code 239 = .ok (.iconst 1, 1) := by decide +kernel
theorem dL_law_240 : decode code 240 = .ok (.iadd, 1) := by decide +kernel
theorem dL_law_241 : decode code 241 = .ok (.iaload, 1) := by decide +kernel
theorem dL_law_242 : decode code 242 = .ok (.aload_n 0, 1) := by decide +kernel
theorem dL_law_243 : decode code 243 = .ok (.iload_n 3, 1) := by decide +kernel
theorem dL_law_244 : decode code 244 = .ok (.iconst 2, 1) := by decide +kernel
theorem dL_law_245 : decode code 245 = .ok (.iadd, 1) := by decide +kernel
theorem dL_law_246 : decode code 246 = .ok (.iaload, 1) := by decide +kernel
theorem dL_law_247 : decode code 247 = .ok (.invokevirtual 13, 3) := by decide +kernel
theorem dL_law_250 : decode code 250 = .ok (.aload_n 2, 1) := by decide +kernel
theorem dL_law_251 : decode code 251 = .ok (.aload_n 0, 1) := by decide +kernel
theorem dL_law_252 : decode code 252 = .ok (.iload_n 3, 1) := by decide +kernel
theorem dL_law_253 : decode code 253 = .ok (.iconst 1, 1) := by decide +kernel
theorem dL_law_254 : decode code 254 = .ok (.iadd, 1) := by decide +kernel
theorem dL_law_255 : decode code 255 = .ok (.iaload, 1) := by decide +kernel
theorem dL_law_256 : decode code 256 = .ok (.aload_n 0, 1) := by decide +kernel
theorem dL_law_257 : decode code 257 = .ok (.iload_n 3, 1) := by decide +kernel
theorem dL_law_258 : decode code 258 = .ok (.iconst 2, 1) := by decide +kernel
theorem dL_law_259 : decode code 259 = .ok (.iadd, 1) := by decide +kernel
theorem dL_law_260 : decode code 260 = .ok (.iaload, 1) := by decide +kernel
theorem dL_law_261 : decode code 261 = .ok (.invokevirtual 17, 3) := by decide +kernel
theorem dL_law_264 : decode code 264 = .ok (.if_icmp .eq 1484, 3) := by decide +kernel
theorem dL_law_267 : decode code 267 = .ok (.iconst 0, 1) := by decide +kernel
theorem dL_law_268 : decode code 268 = .ok (.ireturn, 1) := by decide +kernel
theorem dL_law_269 : decode code 269 = .ok (.aload_n 1, 1) := by decide +kernel
theorem dL_law_270 : decode code 270 = .ok (.aload_n 0, 1) := by decide +kernel
theorem dL_law_271 : decode code 271 = .ok (.iload_n 3, 1) := by decide +kernel
theorem dL_law_272 : decode code 272 = .ok (.iconst 1, 1) := by decide +kernel
theorem dL_law_273 : decode code 273 = .ok (.iadd, 1) := by decide +kernel
theorem dL_law_274 : decode code 274 = .ok (.iaload, 1) := by decide +kernel
theorem dL_law_275 : decode code 275 = .ok (.aload_n 0, 1) := by decide +kernel
theorem dL_law_276 : decode code 276 = .ok (.iload_n 3, 1) := by decide +kernel
theorem dL_law_277 : decode code 277 = .ok (.iconst 2, 1) := by decide +kernel
theorem dL_law_278 : decode code 278 = .ok (.iadd, 1) := by decide +kernel
theorem dL_law_279 : decode code 279 = .ok (.iaload, 1) := by decide +kernel
theorem dL_law_280 : decode code 280 = .ok (.invokevirtual 18, 3) := by decide +kernel
theorem dL_law_283 : decode code 283 = .ok (.aload_n 2, 1) := by decide +kernel
theorem dL_law_284 : decode code 284 = .ok (.aload_n 0, 1) := by decide +kernel
theorem dL_law_285 : decode code 285 = .ok (.iload_n 3, 1) := by decide +kernel
theorem dL_law_286 : decode code 286 = .ok (.iconst 1, 1) := by decide +kernel
theorem dL_law_287 : decode code 287 = .ok (.iadd, 1) := by decide +kernel
theorem dL_law_288 : decode code 288 = .ok (.iaload, 1) := by decide +kernel
theorem dL_law_289 : decode code 289 = .ok (.aload_n 0, 1) := by decide +kernel
theorem dL_law_290 : decode code 290 = .ok (.iload_n 3, 1) := by decide +kernel
theorem dL_law_291 : decode code 291 = .ok (.iconst 2, 1) := by decide +kernel
theorem dL_law_292 : decode code 292 = .ok (.iadd, 1) := by decide +kernel
theorem dL_law_293 : decode code 293 = .ok (.iaload, 1) := by decide +kernel
theorem dL_law_294 : decode code 294 = .ok (.invokevirtual 21, 3) := by decide +kernel
theorem dL_law_297 : decode code 297 = .ok (.if_icmp .eq 1451, 3) := by decide +kernel
theorem dL_law_300 : decode code 300 = .ok (.iconst 0, 1) := by decide +kernel
theorem dL_law_301 : decode code 301 = .ok (.ireturn, 1) := by decide +kernel
theorem dL_law_302 : decode code 302 = .ok (.aload_n 1, 1) := by decide +kernel
theorem dL_law_303 : decode code 303 = .ok (.aload_n 0, 1) := by decide +kernel
theorem dL_law_304 : decode code 304 = .ok (.iload_n 3, 1) := by decide +kernel
theorem dL_law_305 : decode code 305 = .ok (.iconst 1, 1) := by decide +kernel
theorem dL_law_306 : decode code 306 = .ok (.iadd, 1) := by decide +kernel
theorem dL_law_307 : decode code 307 = .ok (.iaload, 1) := by decide +kernel
theorem dL_law_308 : decode code 308 = .ok (.aload_n 0, 1) := by decide +kernel
theorem dL_law_309 : decode code 309 = .ok (.iload_n 3, 1) := by decide +kernel
theorem dL_law_310 : decode code 310 = .ok (.iconst 2, 1) := by decide +kernel
theorem dL_law_311 : decode code 311 = .ok (.iadd, 1) := by decide +kernel
theorem dL_law_312 : decode code 312 = .ok (.iaload, 1) := by decide +kernel
theorem dL_law_313 : decode code 313 = .ok (.aload_n 0, 1) := by decide +kernel
theorem dL_law_314 : decode code 314 = .ok (.iload_n 3, 1) := by decide +kernel
theorem dL_law_315 : decode code 315 = .ok (.iconst 3, 1) := by decide +kernel
theorem dL_law_316 : decode code 316 = .ok (.iadd, 1) := by decide +kernel
theorem dL_law_317 : decode code 317 = .ok (.iaload, 1) := by decide +kernel
theorem dL_law_318 : decode code 318 = .ok (.invokevirtual 22, 3) := by decide +kernel
theorem dL_law_321 : decode code 321 = .ok (.aload_n 2, 1) := by decide +kernel
theorem dL_law_322 : decode code 322 = .ok (.aload_n 0, 1) := by decide +kernel
theorem dL_law_323 : decode code 323 = .ok (.iload_n 3, 1) := by decide +kernel
theorem dL_law_324 : decode code 324 = .ok (.iconst 1, 1) := by decide +kernel
theorem dL_law_325 : decode code 325 = .ok (.iadd, 1) := by decide +kernel
theorem dL_law_326 : decode code 326 = .ok (.iaload, 1) := by decide +kernel
theorem dL_law_327 : decode code 327 = .ok (.aload_n 0, 1) := by decide +kernel
theorem dL_law_328 : decode code 328 = .ok (.iload_n 3, 1) := by decide +kernel
theorem dL_law_329 : decode code 329 = .ok (.iconst 2, 1) := by decide +kernel
theorem dL_law_330 : decode code 330 = .ok (.iadd, 1) := by decide +kernel
theorem dL_law_331 : decode code 331 = .ok (.iaload, 1) := by decide +kernel
theorem dL_law_332 : decode code 332 = .ok (.aload_n 0, 1) := by decide +kernel
theorem dL_law_333 : decode code 333 = .ok (.iload_n 3, 1) := by decide +kernel
theorem dL_law_334 : decode code 334 = .ok (.iconst 3, 1) := by decide +kernel
theorem dL_law_335 : decode code 335 = .ok (.iadd, 1) := by decide +kernel
theorem dL_law_336 : decode code 336 = .ok (.iaload, 1) := by decide +kernel
theorem dL_law_337 : decode code 337 = .ok (.invokevirtual 26, 3) := by decide +kernel
theorem dL_law_340 : decode code 340 = .ok (.if_icmp .eq 1408, 3) := by decide +kernel
theorem dL_law_343 : decode code 343 = .ok (.iconst 0, 1) := by decide +kernel
theorem dL_law_344 : decode code 344 = .ok (.ireturn, 1) := by decide +kernel
theorem dL_law_345 : decode code 345 = .ok (.aload_n 1, 1) := by decide +kernel
theorem dL_law_346 : decode code 346 = .ok (.invokevirtual 27, 3) := by decide +kernel
theorem dL_law_349 : decode code 349 = .ok (.aload_n 2, 1) := by decide +kernel
theorem dL_law_350 : decode code 350 = .ok (.invokevirtual 31, 3) := by decide +kernel
theorem dL_law_353 : decode code 353 = .ok (.if_icmp .eq 1395, 3) := by decide +kernel
theorem dL_law_356 : decode code 356 = .ok (.iconst 0, 1) := by decide +kernel
theorem dL_law_357 : decode code 357 = .ok (.ireturn, 1) := by decide +kernel
theorem dL_law_358 : decode code 358 = .ok (.aload_n 1, 1) := by decide +kernel
theorem dL_law_359 : decode code 359 = .ok (.aload_n 0, 1) := by decide +kernel
theorem dL_law_360 : decode code 360 = .ok (.iload_n 3, 1) := by decide +kernel
theorem dL_law_361 : decode code 361 = .ok (.iconst 1, 1) := by decide +kernel
theorem dL_law_362 : decode code 362 = .ok (.iadd, 1) := by decide +kernel
theorem dL_law_363 : decode code 363 = .ok (.iaload, 1) := by decide +kernel
theorem dL_law_364 : decode code 364 = .ok (.aload_n 0, 1) := by decide +kernel
theorem dL_law_365 : decode code 365 = .ok (.iload_n 3, 1) := by decide +kernel
theorem dL_law_366 : decode code 366 = .ok (.iconst 2, 1) := by decide +kernel
theorem dL_law_367 : decode code 367 = .ok (.iadd, 1) := by decide +kernel
theorem dL_law_368 : decode code 368 = .ok (.iaload, 1) := by decide +kernel
theorem dL_law_369 : decode code 369 = .ok (.invokevirtual 32, 3) := by decide +kernel
theorem dL_law_372 : decode code 372 = .ok (.aload_n 2, 1) := by decide +kernel
theorem dL_law_373 : decode code 373 = .ok (.aload_n 0, 1) := by decide +kernel
theorem dL_law_374 : decode code 374 = .ok (.iload_n 3, 1) := by decide +kernel
theorem dL_law_375 : decode code 375 = .ok (.iconst 1, 1) := by decide +kernel
theorem dL_law_376 : decode code 376 = .ok (.iadd, 1) := by decide +kernel
theorem dL_law_377 : decode code 377 = .ok (.iaload, 1) := by decide +kernel
theorem dL_law_378 : decode code 378 = .ok (.aload_n 0, 1) := by decide +kernel
theorem dL_law_379 : decode code 379 = .ok (.iload_n 3, 1) := by decide +kernel
theorem dL_law_380 : decode code 380 = .ok (.iconst 2, 1) := by decide +kernel
theorem dL_law_381 : decode code 381 = .ok (.iadd, 1) := by decide +kernel
theorem dL_law_382 : decode code 382 = .ok (.iaload, 1) := by decide +kernel
theorem dL_law_383 : decode code 383 = .ok (.invokevirtual 35, 3) := by decide +kernel
theorem dL_law_386 : decode code 386 = .ok (.if_icmp .eq 1362, 3) := by decide +kernel
theorem dL_law_389 : decode code 389 = .ok (.iconst 0, 1) := by decide +kernel
theorem dL_law_390 : decode code 390 = .ok (.ireturn, 1) := by decide +kernel
theorem dL_law_391 : decode code 391 = .ok (.aload_n 1, 1) := by decide +kernel
theorem dL_law_392 : decode code 392 = .ok (.aload_n 0, 1) := by decide +kernel
theorem dL_law_393 : decode code 393 = .ok (.iload_n 3, 1) := by decide +kernel
theorem dL_law_394 : decode code 394 = .ok (.iconst 1, 1) := by decide +kernel
theorem dL_law_395 : decode code 395 = .ok (.iadd, 1) := by decide +kernel
theorem dL_law_396 : decode code 396 = .ok (.iaload, 1) := by decide +kernel
theorem dL_law_397 : decode code 397 = .ok (.invokevirtual 36, 3) := by decide +kernel
theorem dL_law_400 : decode code 400 = .ok (.aload_n 2, 1) := by decide +kernel
theorem dL_law_401 : decode code 401 = .ok (.aload_n 0, 1) := by decide +kernel
theorem dL_law_402 : decode code 402 = .ok (.iload_n 3, 1) := by decide +kernel
theorem dL_law_403 : decode code 403 = .ok (.iconst 1, 1) := by decide +kernel
theorem dL_law_404 : decode code 404 = .ok (.iadd, 1) := by decide +kernel
theorem dL_law_405 : decode code 405 = .ok (.iaload, 1) := by decide +kernel
theorem dL_law_406 : decode code 406 = .ok (.invokevirtual 40, 3) := by decide +kernel
theorem dL_law_409 : decode code 409 = .ok (.lcmp, 1) := by decide +kernel
theorem dL_law_410 : decode code 410 = .ok (.ifCond .eq 1338, 3) := by decide +kernel
theorem dL_law_413 : decode code 413 = .ok (.iconst 0, 1) := by decide +kernel
theorem dL_law_414 : decode code 414 = .ok (.ireturn, 1) := by decide +kernel
theorem dL_law_415 : decode code 415 = .ok (.aload_n 1, 1) := by decide +kernel
theorem dL_law_416 : decode code 416 = .ok (.aload_n 0, 1) := by decide +kernel
theorem dL_law_417 : decode code 417 = .ok (.iload_n 3, 1) := by decide +kernel
theorem dL_law_418 : decode code 418 = .ok (.iconst 1, 1) := by decide +kernel
theorem dL_law_419 : decode code 419 = .ok (.iadd, 1) := by decide +kernel
theorem dL_law_420 : decode code 420 = .ok (.iaload, 1) := by decide +kernel
theorem dL_law_421 : decode code 421 = .ok (.aload_n 0, 1) := by decide +kernel
theorem dL_law_422 : decode code 422 = .ok (.iload_n 3, 1) := by decide +kernel
theorem dL_law_423 : decode code 423 = .ok (.iconst 2, 1) := by decide +kernel
theorem dL_law_424 : decode code 424 = .ok (.iadd, 1) := by decide +kernel
theorem dL_law_425 : decode code 425 = .ok (.iaload, 1) := by decide +kernel
theorem dL_law_426 : decode code 426 = .ok (.invokevirtual 41, 3) := by decide +kernel
theorem dL_law_429 : decode code 429 = .ok (.aload_n 2, 1) := by decide +kernel
theorem dL_law_430 : decode code 430 = .ok (.aload_n 0, 1) := by decide +kernel
theorem dL_law_431 : decode code 431 = .ok (.iload_n 3, 1) := by decide +kernel
theorem dL_law_432 : decode code 432 = .ok (.iconst 1, 1) := by decide +kernel
theorem dL_law_433 : decode code 433 = .ok (.iadd, 1) := by decide +kernel
theorem dL_law_434 : decode code 434 = .ok (.iaload, 1) := by decide +kernel
theorem dL_law_435 : decode code 435 = .ok (.aload_n 0, 1) := by decide +kernel
theorem dL_law_436 : decode code 436 = .ok (.iload_n 3, 1) := by decide +kernel
theorem dL_law_437 : decode code 437 = .ok (.iconst 2, 1) := by decide +kernel
theorem dL_law_438 : decode code 438 = .ok (.iadd, 1) := by decide +kernel
theorem dL_law_439 : decode code 439 = .ok (.iaload, 1) := by decide +kernel
theorem dL_law_440 : decode code 440 = .ok (.invokevirtual 45, 3) := by decide +kernel
theorem dL_law_443 : decode code 443 = .ok (.lcmp, 1) := by decide +kernel
theorem dL_law_444 : decode code 444 = .ok (.ifCond .eq 1304, 3) := by decide +kernel
theorem dL_law_447 : decode code 447 = .ok (.iconst 0, 1) := by decide +kernel
theorem dL_law_448 : decode code 448 = .ok (.ireturn, 1) := by decide +kernel
theorem dL_law_449 : decode code 449 = .ok (.aload_n 1, 1) := by decide +kernel
theorem dL_law_450 : decode code 450 = .ok (.aload_n 0, 1) := by decide +kernel
theorem dL_law_451 : decode code 451 = .ok (.iload_n 3, 1) := by decide +kernel
theorem dL_law_452 : decode code 452 = .ok (.iconst 1, 1) := by decide +kernel
theorem dL_law_453 : decode code 453 = .ok (.iadd, 1) := by decide +kernel
theorem dL_law_454 : decode code 454 = .ok (.iaload, 1) := by decide +kernel
theorem dL_law_455 : decode code 455 = .ok (.aload_n 0, 1) := by decide +kernel
theorem dL_law_456 : decode code 456 = .ok (.iload_n 3, 1) := by decide +kernel
theorem dL_law_457 : decode code 457 = .ok (.iconst 2, 1) := by decide +kernel
theorem dL_law_458 : decode code 458 = .ok (.iadd, 1) := by decide +kernel
theorem dL_law_459 : decode code 459 = .ok (.iaload, 1) := by decide +kernel
theorem dL_law_460 : decode code 460 = .ok (.invokevirtual 46, 3) := by decide +kernel
theorem dL_law_463 : decode code 463 = .ok (.aload_n 2, 1) := by decide +kernel
theorem dL_law_464 : decode code 464 = .ok (.aload_n 0, 1) := by decide +kernel
theorem dL_law_465 : decode code 465 = .ok (.iload_n 3, 1) := by decide +kernel
theorem dL_law_466 : decode code 466 = .ok (.iconst 1, 1) := by decide +kernel
theorem dL_law_467 : decode code 467 = .ok (.iadd, 1) := by decide +kernel
theorem dL_law_468 : decode code 468 = .ok (.iaload, 1) := by decide +kernel
theorem dL_law_469 : decode code 469 = .ok (.aload_n 0, 1) := by decide +kernel
theorem dL_law_470 : decode code 470 = .ok (.iload_n 3, 1) := by decide +kernel
theorem dL_law_471 : decode code 471 = .ok (.iconst 2, 1) := by decide +kernel
theorem dL_law_472 : decode code 472 = .ok (.iadd, 1) := by decide +kernel
theorem dL_law_473 : decode code 473 = .ok (.iaload, 1) := by decide +kernel
theorem dL_law_474 : decode code 474 = .ok (.invokevirtual 49, 3) := by decide +kernel
theorem dL_law_477 : decode code 477 = .ok (.if_icmp .eq 1271, 3) := by decide +kernel
theorem dL_law_480 : decode code 480 = .ok (.iconst 0, 1) := by decide +kernel
theorem dL_law_481 : decode code 481 = .ok (.ireturn, 1) := by decide +kernel
theorem dL_law_482 : decode code 482 = .ok (.aload_n 1, 1) := by decide +kernel
theorem dL_law_483 : decode code 483 = .ok (.aload_n 0, 1) := by decide +kernel
theorem dL_law_484 : decode code 484 = .ok (.iload_n 3, 1) := by decide +kernel
theorem dL_law_485 : decode code 485 = .ok (.iconst 1, 1) := by decide +kernel
theorem dL_law_486 : decode code 486 = .ok (.iadd, 1) := by decide +kernel
theorem dL_law_487 : decode code 487 = .ok (.iaload, 1) := by decide +kernel
theorem dL_law_488 : decode code 488 = .ok (.aload_n 0, 1) := by decide +kernel
theorem dL_law_489 : decode code 489 = .ok (.iload_n 3, 1) := by decide +kernel
theorem dL_law_490 : decode code 490 = .ok (.iconst 2, 1) := by decide +kernel
theorem dL_law_491 : decode code 491 = .ok (.iadd, 1) := by decide +kernel
theorem dL_law_492 : decode code 492 = .ok (.iaload, 1) := by decide +kernel
theorem dL_law_493 : decode code 493 = .ok (.invokevirtual 50, 3) := by decide +kernel
theorem dL_law_496 : decode code 496 = .ok (.aload_n 2, 1) := by decide +kernel
theorem dL_law_497 : decode code 497 = .ok (.aload_n 0, 1) := by decide +kernel
theorem dL_law_498 : decode code 498 = .ok (.iload_n 3, 1) := by decide +kernel
theorem dL_law_499 : decode code 499 = .ok (.iconst 1, 1) := by decide +kernel
theorem dL_law_500 : decode code 500 = .ok (.iadd, 1) := by decide +kernel
theorem dL_law_501 : decode code 501 = .ok (.iaload, 1) := by decide +kernel
theorem dL_law_502 : decode code 502 = .ok (.aload_n 0, 1) := by decide +kernel
theorem dL_law_503 : decode code 503 = .ok (.iload_n 3, 1) := by decide +kernel
theorem dL_law_504 : decode code 504 = .ok (.iconst 2, 1) := by decide +kernel
theorem dL_law_505 : decode code 505 = .ok (.iadd, 1) := by decide +kernel
theorem dL_law_506 : decode code 506 = .ok (.iaload, 1) := by decide +kernel
theorem dL_law_507 : decode code 507 = .ok (.invokevirtual 53, 3) := by decide +kernel
theorem dL_law_510 : decode code 510 = .ok (.lcmp, 1) := by decide +kernel
theorem dL_law_511 : decode code 511 = .ok (.ifCond .eq 1237, 3) := by decide +kernel
theorem dL_law_514 : decode code 514 = .ok (.iconst 0, 1) := by decide +kernel
theorem dL_law_515 : decode code 515 = .ok (.ireturn, 1) := by decide +kernel
theorem dL_law_516 : decode code 516 = .ok (.aload_n 1, 1) := by decide +kernel
theorem dL_law_517 : decode code 517 = .ok (.aload_n 0, 1) := by decide +kernel
theorem dL_law_518 : decode code 518 = .ok (.iload_n 3, 1) := by decide +kernel
theorem dL_law_519 : decode code 519 = .ok (.iconst 1, 1) := by decide +kernel
theorem dL_law_520 : decode code 520 = .ok (.iadd, 1) := by decide +kernel
theorem dL_law_521 : decode code 521 = .ok (.iaload, 1) := by decide +kernel
theorem dL_law_522 : decode code 522 = .ok (.aload_n 0, 1) := by decide +kernel
theorem dL_law_523 : decode code 523 = .ok (.iload_n 3, 1) := by decide +kernel
theorem dL_law_524 : decode code 524 = .ok (.iconst 2, 1) := by decide +kernel
theorem dL_law_525 : decode code 525 = .ok (.iadd, 1) := by decide +kernel
theorem dL_law_526 : decode code 526 = .ok (.iaload, 1) := by decide +kernel
theorem dL_law_527 : decode code 527 = .ok (.invokevirtual 54, 3) := by decide +kernel
theorem dL_law_530 : decode code 530 = .ok (.aload_n 2, 1) := by decide +kernel
theorem dL_law_531 : decode code 531 = .ok (.aload_n 0, 1) := by decide +kernel
theorem dL_law_532 : decode code 532 = .ok (.iload_n 3, 1) := by decide +kernel
theorem dL_law_533 : decode code 533 = .ok (.iconst 1, 1) := by decide +kernel
theorem dL_law_534 : decode code 534 = .ok (.iadd, 1) := by decide +kernel
theorem dL_law_535 : decode code 535 = .ok (.iaload, 1) := by decide +kernel
theorem dL_law_536 : decode code 536 = .ok (.aload_n 0, 1) := by decide +kernel
theorem dL_law_537 : decode code 537 = .ok (.iload_n 3, 1) := by decide +kernel
theorem dL_law_538 : decode code 538 = .ok (.iconst 2, 1) := by decide +kernel
theorem dL_law_539 : decode code 539 = .ok (.iadd, 1) := by decide +kernel
theorem dL_law_540 : decode code 540 = .ok (.iaload, 1) := by decide +kernel
theorem dL_law_541 : decode code 541 = .ok (.invokevirtual 57, 3) := by decide +kernel
theorem dL_law_544 : decode code 544 = .ok (.if_icmp .eq 1204, 3) := by decide +kernel
theorem dL_law_547 : decode code 547 = .ok (.iconst 0, 1) := by decide +kernel
theorem dL_law_548 : decode code 548 = .ok (.ireturn, 1) := by decide +kernel
theorem dL_law_549 : decode code 549 = .ok (.aload_n 1, 1) := by decide +kernel
theorem dL_law_550 : decode code 550 = .ok (.aload_n 0, 1) := by decide +kernel
theorem dL_law_551 : decode code 551 = .ok (.iload_n 3, 1) := by decide +kernel
theorem dL_law_552 : decode code 552 = .ok (.iconst 1, 1) := by decide +kernel
theorem dL_law_553 : decode code 553 = .ok (.iadd, 1) := by decide +kernel
theorem dL_law_554 : decode code 554 = .ok (.iaload, 1) := by decide +kernel
theorem dL_law_555 : decode code 555 = .ok (.aload_n 0, 1) := by decide +kernel
theorem dL_law_556 : decode code 556 = .ok (.iload_n 3, 1) := by decide +kernel
theorem dL_law_557 : decode code 557 = .ok (.iconst 2, 1) := by decide +kernel
theorem dL_law_558 : decode code 558 = .ok (.iadd, 1) := by decide +kernel
theorem dL_law_559 : decode code 559 = .ok (.iaload, 1) := by decide +kernel
theorem dL_law_560 : decode code 560 = .ok (.invokevirtual 58, 3) := by decide +kernel
theorem dL_law_563 : decode code 563 = .ok (.aload_n 2, 1) := by decide +kernel
theorem dL_law_564 : decode code 564 = .ok (.aload_n 0, 1) := by decide +kernel
theorem dL_law_565 : decode code 565 = .ok (.iload_n 3, 1) := by decide +kernel
theorem dL_law_566 : decode code 566 = .ok (.iconst 1, 1) := by decide +kernel
theorem dL_law_567 : decode code 567 = .ok (.iadd, 1) := by decide +kernel
theorem dL_law_568 : decode code 568 = .ok (.iaload, 1) := by decide +kernel
theorem dL_law_569 : decode code 569 = .ok (.aload_n 0, 1) := by decide +kernel
theorem dL_law_570 : decode code 570 = .ok (.iload_n 3, 1) := by decide +kernel
theorem dL_law_571 : decode code 571 = .ok (.iconst 2, 1) := by decide +kernel
theorem dL_law_572 : decode code 572 = .ok (.iadd, 1) := by decide +kernel
theorem dL_law_573 : decode code 573 = .ok (.iaload, 1) := by decide +kernel
theorem dL_law_574 : decode code 574 = .ok (.invokevirtual 61, 3) := by decide +kernel
theorem dL_law_577 : decode code 577 = .ok (.lcmp, 1) := by decide +kernel
theorem dL_law_578 : decode code 578 = .ok (.ifCond .eq 1170, 3) := by decide +kernel
theorem dL_law_581 : decode code 581 = .ok (.iconst 0, 1) := by decide +kernel
theorem dL_law_582 : decode code 582 = .ok (.ireturn, 1) := by decide +kernel
theorem dL_law_583 : decode code 583 = .ok (.aload_n 1, 1) := by decide +kernel
theorem dL_law_584 : decode code 584 = .ok (.aload_n 0, 1) := by decide +kernel
theorem dL_law_585 : decode code 585 = .ok (.iload_n 3, 1) := by decide +kernel
theorem dL_law_586 : decode code 586 = .ok (.iconst 1, 1) := by decide +kernel
theorem dL_law_587 : decode code 587 = .ok (.iadd, 1) := by decide +kernel
theorem dL_law_588 : decode code 588 = .ok (.iaload, 1) := by decide +kernel
theorem dL_law_589 : decode code 589 = .ok (.aload_n 0, 1) := by decide +kernel
theorem dL_law_590 : decode code 590 = .ok (.iload_n 3, 1) := by decide +kernel
theorem dL_law_591 : decode code 591 = .ok (.iconst 2, 1) := by decide +kernel
theorem dL_law_592 : decode code 592 = .ok (.iadd, 1) := by decide +kernel
theorem dL_law_593 : decode code 593 = .ok (.iaload, 1) := by decide +kernel
theorem dL_law_594 : decode code 594 = .ok (.aload_n 0, 1) := by decide +kernel
theorem dL_law_595 : decode code 595 = .ok (.iload_n 3, 1) := by decide +kernel
theorem dL_law_596 : decode code 596 = .ok (.iconst 3, 1) := by decide +kernel
theorem dL_law_597 : decode code 597 = .ok (.iadd, 1) := by decide +kernel
theorem dL_law_598 : decode code 598 = .ok (.iaload, 1) := by decide +kernel
theorem dL_law_599 : decode code 599 = .ok (.invokevirtual 62, 3) := by decide +kernel
theorem dL_law_602 : decode code 602 = .ok (.aload_n 2, 1) := by decide +kernel
theorem dL_law_603 : decode code 603 = .ok (.aload_n 0, 1) := by decide +kernel
theorem dL_law_604 : decode code 604 = .ok (.iload_n 3, 1) := by decide +kernel
theorem dL_law_605 : decode code 605 = .ok (.iconst 1, 1) := by decide +kernel
theorem dL_law_606 : decode code 606 = .ok (.iadd, 1) := by decide +kernel
theorem dL_law_607 : decode code 607 = .ok (.iaload, 1) := by decide +kernel
theorem dL_law_608 : decode code 608 = .ok (.aload_n 0, 1) := by decide +kernel
theorem dL_law_609 : decode code 609 = .ok (.iload_n 3, 1) := by decide +kernel
theorem dL_law_610 : decode code 610 = .ok (.iconst 2, 1) := by decide +kernel
theorem dL_law_611 : decode code 611 = .ok (.iadd, 1) := by decide +kernel
theorem dL_law_612 : decode code 612 = .ok (.iaload, 1) := by decide +kernel
theorem dL_law_613 : decode code 613 = .ok (.aload_n 0, 1) := by decide +kernel
theorem dL_law_614 : decode code 614 = .ok (.iload_n 3, 1) := by decide +kernel
theorem dL_law_615 : decode code 615 = .ok (.iconst 3, 1) := by decide +kernel
theorem dL_law_616 : decode code 616 = .ok (.iadd, 1) := by decide +kernel
theorem dL_law_617 : decode code 617 = .ok (.iaload, 1) := by decide +kernel
theorem dL_law_618 : decode code 618 = .ok (.invokevirtual 65, 3) := by decide +kernel
theorem dL_law_621 : decode code 621 = .ok (.if_icmp .eq 1127, 3) := by decide +kernel
theorem dL_law_624 : decode code 624 = .ok (.iconst 0, 1) := by decide +kernel
theorem dL_law_625 : decode code 625 = .ok (.ireturn, 1) := by decide +kernel
theorem dL_law_626 : decode code 626 = .ok (.aload_n 1, 1) := by decide +kernel
theorem dL_law_627 : decode code 627 = .ok (.aload_n 0, 1) := by decide +kernel
theorem dL_law_628 : decode code 628 = .ok (.iload_n 3, 1) := by decide +kernel
theorem dL_law_629 : decode code 629 = .ok (.iconst 1, 1) := by decide +kernel
theorem dL_law_630 : decode code 630 = .ok (.iadd, 1) := by decide +kernel
theorem dL_law_631 : decode code 631 = .ok (.iaload, 1) := by decide +kernel
theorem dL_law_632 : decode code 632 = .ok (.aload_n 0, 1) := by decide +kernel
theorem dL_law_633 : decode code 633 = .ok (.iload_n 3, 1) := by decide +kernel
theorem dL_law_634 : decode code 634 = .ok (.iconst 2, 1) := by decide +kernel
theorem dL_law_635 : decode code 635 = .ok (.iadd, 1) := by decide +kernel
theorem dL_law_636 : decode code 636 = .ok (.iaload, 1) := by decide +kernel
theorem dL_law_637 : decode code 637 = .ok (.invokevirtual 66, 3) := by decide +kernel
theorem dL_law_640 : decode code 640 = .ok (.aload_n 2, 1) := by decide +kernel
theorem dL_law_641 : decode code 641 = .ok (.aload_n 0, 1) := by decide +kernel
theorem dL_law_642 : decode code 642 = .ok (.iload_n 3, 1) := by decide +kernel
theorem dL_law_643 : decode code 643 = .ok (.iconst 1, 1) := by decide +kernel
theorem dL_law_644 : decode code 644 = .ok (.iadd, 1) := by decide +kernel
theorem dL_law_645 : decode code 645 = .ok (.iaload, 1) := by decide +kernel
theorem dL_law_646 : decode code 646 = .ok (.aload_n 0, 1) := by decide +kernel
theorem dL_law_647 : decode code 647 = .ok (.iload_n 3, 1) := by decide +kernel
theorem dL_law_648 : decode code 648 = .ok (.iconst 2, 1) := by decide +kernel
theorem dL_law_649 : decode code 649 = .ok (.iadd, 1) := by decide +kernel
theorem dL_law_650 : decode code 650 = .ok (.iaload, 1) := by decide +kernel
theorem dL_law_651 : decode code 651 = .ok (.invokevirtual 69, 3) := by decide +kernel
theorem dL_law_654 : decode code 654 = .ok (.if_icmp .eq 1094, 3) := by decide +kernel
theorem dL_law_657 : decode code 657 = .ok (.iconst 0, 1) := by decide +kernel
theorem dL_law_658 : decode code 658 = .ok (.ireturn, 1) := by decide +kernel
theorem dL_law_659 : decode code 659 = .ok (.aload_n 1, 1) := by decide +kernel
theorem dL_law_660 : decode code 660 = .ok (.aload_n 0, 1) := by decide +kernel
theorem dL_law_661 : decode code 661 = .ok (.iload_n 3, 1) := by decide +kernel
theorem dL_law_662 : decode code 662 = .ok (.iconst 1, 1) := by decide +kernel
theorem dL_law_663 : decode code 663 = .ok (.iadd, 1) := by decide +kernel
theorem dL_law_664 : decode code 664 = .ok (.iaload, 1) := by decide +kernel
theorem dL_law_665 : decode code 665 = .ok (.aload_n 0, 1) := by decide +kernel
theorem dL_law_666 : decode code 666 = .ok (.iload_n 3, 1) := by decide +kernel
theorem dL_law_667 : decode code 667 = .ok (.iconst 2, 1) := by decide +kernel
theorem dL_law_668 : decode code 668 = .ok (.iadd, 1) := by decide +kernel
theorem dL_law_669 : decode code 669 = .ok (.iaload, 1) := by decide +kernel
theorem dL_law_670 : decode code 670 = .ok (.invokevirtual 70, 3) := by decide +kernel
theorem dL_law_673 : decode code 673 = .ok (.aload_n 2, 1) := by decide +kernel
theorem dL_law_674 : decode code 674 = .ok (.aload_n 0, 1) := by decide +kernel
theorem dL_law_675 : decode code 675 = .ok (.iload_n 3, 1) := by decide +kernel
theorem dL_law_676 : decode code 676 = .ok (.iconst 1, 1) := by decide +kernel
theorem dL_law_677 : decode code 677 = .ok (.iadd, 1) := by decide +kernel
theorem dL_law_678 : decode code 678 = .ok (.iaload, 1) := by decide +kernel
theorem dL_law_679 : decode code 679 = .ok (.aload_n 0, 1) := by decide +kernel
theorem dL_law_680 : decode code 680 = .ok (.iload_n 3, 1) := by decide +kernel
theorem dL_law_681 : decode code 681 = .ok (.iconst 2, 1) := by decide +kernel
theorem dL_law_682 : decode code 682 = .ok (.iadd, 1) := by decide +kernel
theorem dL_law_683 : decode code 683 = .ok (.iaload, 1) := by decide +kernel
theorem dL_law_684 : decode code 684 = .ok (.invokevirtual 73, 3) := by decide +kernel
theorem dL_law_687 : decode code 687 = .ok (.if_icmp .eq 1061, 3) := by decide +kernel
theorem dL_law_690 : decode code 690 = .ok (.iconst 0, 1) := by decide +kernel
theorem dL_law_691 : decode code 691 = .ok (.ireturn, 1) := by decide +kernel
theorem dL_law_692 : decode code 692 = .ok (.aload_n 1, 1) := by decide +kernel
theorem dL_law_693 : decode code 693 = .ok (.aload_n 0, 1) := by decide +kernel
theorem dL_law_694 : decode code 694 = .ok (.iload_n 3, 1) := by decide +kernel
theorem dL_law_695 : decode code 695 = .ok (.iconst 1, 1) := by decide +kernel
theorem dL_law_696 : decode code 696 = .ok (.iadd, 1) := by decide +kernel
theorem dL_law_697 : decode code 697 = .ok (.iaload, 1) := by decide +kernel
theorem dL_law_698 : decode code 698 = .ok (.aload_n 0, 1) := by decide +kernel
theorem dL_law_699 : decode code 699 = .ok (.iload_n 3, 1) := by decide +kernel
theorem dL_law_700 : decode code 700 = .ok (.iconst 2, 1) := by decide +kernel
theorem dL_law_701 : decode code 701 = .ok (.iadd, 1) := by decide +kernel
theorem dL_law_702 : decode code 702 = .ok (.iaload, 1) := by decide +kernel
theorem dL_law_703 : decode code 703 = .ok (.aload_n 0, 1) := by decide +kernel
theorem dL_law_704 : decode code 704 = .ok (.iload_n 3, 1) := by decide +kernel
theorem dL_law_705 : decode code 705 = .ok (.iconst 3, 1) := by decide +kernel
theorem dL_law_706 : decode code 706 = .ok (.iadd, 1) := by decide +kernel
theorem dL_law_707 : decode code 707 = .ok (.iaload, 1) := by decide +kernel
theorem dL_law_708 : decode code 708 = .ok (.invokevirtual 74, 3) := by decide +kernel
theorem dL_law_711 : decode code 711 = .ok (.aload_n 2, 1) := by decide +kernel
theorem dL_law_712 : decode code 712 = .ok (.aload_n 0, 1) := by decide +kernel
theorem dL_law_713 : decode code 713 = .ok (.iload_n 3, 1) := by decide +kernel
theorem dL_law_714 : decode code 714 = .ok (.iconst 1, 1) := by decide +kernel
theorem dL_law_715 : decode code 715 = .ok (.iadd, 1) := by decide +kernel
theorem dL_law_716 : decode code 716 = .ok (.iaload, 1) := by decide +kernel
theorem dL_law_717 : decode code 717 = .ok (.aload_n 0, 1) := by decide +kernel
theorem dL_law_718 : decode code 718 = .ok (.iload_n 3, 1) := by decide +kernel
theorem dL_law_719 : decode code 719 = .ok (.iconst 2, 1) := by decide +kernel
theorem dL_law_720 : decode code 720 = .ok (.iadd, 1) := by decide +kernel
theorem dL_law_721 : decode code 721 = .ok (.iaload, 1) := by decide +kernel
theorem dL_law_722 : decode code 722 = .ok (.aload_n 0, 1) := by decide +kernel
theorem dL_law_723 : decode code 723 = .ok (.iload_n 3, 1) := by decide +kernel
theorem dL_law_724 : decode code 724 = .ok (.iconst 3, 1) := by decide +kernel
theorem dL_law_725 : decode code 725 = .ok (.iadd, 1) := by decide +kernel
theorem dL_law_726 : decode code 726 = .ok (.iaload, 1) := by decide +kernel
theorem dL_law_727 : decode code 727 = .ok (.invokevirtual 78, 3) := by decide +kernel
theorem dL_law_730 : decode code 730 = .ok (.lcmp, 1) := by decide +kernel
theorem dL_law_731 : decode code 731 = .ok (.ifCond .eq 1017, 3) := by decide +kernel
theorem dL_law_734 : decode code 734 = .ok (.iconst 0, 1) := by decide +kernel
theorem dL_law_735 : decode code 735 = .ok (.ireturn, 1) := by decide +kernel
theorem dL_law_736 : decode code 736 = .ok (.aload_n 1, 1) := by decide +kernel
theorem dL_law_737 : decode code 737 = .ok (.aload_n 0, 1) := by decide +kernel
theorem dL_law_738 : decode code 738 = .ok (.iload_n 3, 1) := by decide +kernel
theorem dL_law_739 : decode code 739 = .ok (.iconst 1, 1) := by decide +kernel
theorem dL_law_740 : decode code 740 = .ok (.iadd, 1) := by decide +kernel
theorem dL_law_741 : decode code 741 = .ok (.iaload, 1) := by decide +kernel
theorem dL_law_742 : decode code 742 = .ok (.aload_n 0, 1) := by decide +kernel
theorem dL_law_743 : decode code 743 = .ok (.iload_n 3, 1) := by decide +kernel
theorem dL_law_744 : decode code 744 = .ok (.iconst 2, 1) := by decide +kernel
theorem dL_law_745 : decode code 745 = .ok (.iadd, 1) := by decide +kernel
theorem dL_law_746 : decode code 746 = .ok (.iaload, 1) := by decide +kernel
theorem dL_law_747 : decode code 747 = .ok (.invokevirtual 79, 3) := by decide +kernel
theorem dL_law_750 : decode code 750 = .ok (.aload_n 2, 1) := by decide +kernel
theorem dL_law_751 : decode code 751 = .ok (.aload_n 0, 1) := by decide +kernel
theorem dL_law_752 : decode code 752 = .ok (.iload_n 3, 1) := by decide +kernel
theorem dL_law_753 : decode code 753 = .ok (.iconst 1, 1) := by decide +kernel
theorem dL_law_754 : decode code 754 = .ok (.iadd, 1) := by decide +kernel
theorem dL_law_755 : decode code 755 = .ok (.iaload, 1) := by decide +kernel
theorem dL_law_756 : decode code 756 = .ok (.aload_n 0, 1) := by decide +kernel
theorem dL_law_757 : decode code 757 = .ok (.iload_n 3, 1) := by decide +kernel
theorem dL_law_758 : decode code 758 = .ok (.iconst 2, 1) := by decide +kernel
theorem dL_law_759 : decode code 759 = .ok (.iadd, 1) := by decide +kernel
theorem dL_law_760 : decode code 760 = .ok (.iaload, 1) := by decide +kernel
theorem dL_law_761 : decode code 761 = .ok (.invokevirtual 82, 3) := by decide +kernel
theorem dL_law_764 : decode code 764 = .ok (.lcmp, 1) := by decide +kernel
theorem dL_law_765 : decode code 765 = .ok (.ifCond .eq 983, 3) := by decide +kernel
theorem dL_law_768 : decode code 768 = .ok (.iconst 0, 1) := by decide +kernel
theorem dL_law_769 : decode code 769 = .ok (.ireturn, 1) := by decide +kernel
theorem dL_law_770 : decode code 770 = .ok (.aload_n 1, 1) := by decide +kernel
theorem dL_law_771 : decode code 771 = .ok (.aload_n 0, 1) := by decide +kernel
theorem dL_law_772 : decode code 772 = .ok (.iload_n 3, 1) := by decide +kernel
theorem dL_law_773 : decode code 773 = .ok (.iconst 1, 1) := by decide +kernel
theorem dL_law_774 : decode code 774 = .ok (.iadd, 1) := by decide +kernel
theorem dL_law_775 : decode code 775 = .ok (.iaload, 1) := by decide +kernel
theorem dL_law_776 : decode code 776 = .ok (.aload_n 0, 1) := by decide +kernel
theorem dL_law_777 : decode code 777 = .ok (.iload_n 3, 1) := by decide +kernel
theorem dL_law_778 : decode code 778 = .ok (.iconst 2, 1) := by decide +kernel
theorem dL_law_779 : decode code 779 = .ok (.iadd, 1) := by decide +kernel
theorem dL_law_780 : decode code 780 = .ok (.iaload, 1) := by decide +kernel
theorem dL_law_781 : decode code 781 = .ok (.aload_n 0, 1) := by decide +kernel
theorem dL_law_782 : decode code 782 = .ok (.iload_n 3, 1) := by decide +kernel
theorem dL_law_783 : decode code 783 = .ok (.iconst 3, 1) := by decide +kernel
theorem dL_law_784 : decode code 784 = .ok (.iadd, 1) := by decide +kernel
theorem dL_law_785 : decode code 785 = .ok (.iaload, 1) := by decide +kernel
theorem dL_law_786 : decode code 786 = .ok (.invokevirtual 83, 3) := by decide +kernel
theorem dL_law_789 : decode code 789 = .ok (.aload_n 2, 1) := by decide +kernel
theorem dL_law_790 : decode code 790 = .ok (.aload_n 0, 1) := by decide +kernel
theorem dL_law_791 : decode code 791 = .ok (.iload_n 3, 1) := by decide +kernel
theorem dL_law_792 : decode code 792 = .ok (.iconst 1, 1) := by decide +kernel
theorem dL_law_793 : decode code 793 = .ok (.iadd, 1) := by decide +kernel
theorem dL_law_794 : decode code 794 = .ok (.iaload, 1) := by decide +kernel
theorem dL_law_795 : decode code 795 = .ok (.aload_n 0, 1) := by decide +kernel
theorem dL_law_796 : decode code 796 = .ok (.iload_n 3, 1) := by decide +kernel
theorem dL_law_797 : decode code 797 = .ok (.iconst 2, 1) := by decide +kernel
theorem dL_law_798 : decode code 798 = .ok (.iadd, 1) := by decide +kernel
theorem dL_law_799 : decode code 799 = .ok (.iaload, 1) := by decide +kernel
theorem dL_law_800 : decode code 800 = .ok (.aload_n 0, 1) := by decide +kernel
theorem dL_law_801 : decode code 801 = .ok (.iload_n 3, 1) := by decide +kernel
theorem dL_law_802 : decode code 802 = .ok (.iconst 3, 1) := by decide +kernel
theorem dL_law_803 : decode code 803 = .ok (.iadd, 1) := by decide +kernel
theorem dL_law_804 : decode code 804 = .ok (.iaload, 1) := by decide +kernel
theorem dL_law_805 : decode code 805 = .ok (.invokevirtual 86, 3) := by decide +kernel
theorem dL_law_808 : decode code 808 = .ok (.lcmp, 1) := by decide +kernel
theorem dL_law_809 : decode code 809 = .ok (.ifCond .eq 939, 3) := by decide +kernel
theorem dL_law_812 : decode code 812 = .ok (.iconst 0, 1) := by decide +kernel
theorem dL_law_813 : decode code 813 = .ok (.ireturn, 1) := by decide +kernel
theorem dL_law_814 : decode code 814 = .ok (.aload_n 1, 1) := by decide +kernel
theorem dL_law_815 : decode code 815 = .ok (.aload_n 0, 1) := by decide +kernel
theorem dL_law_816 : decode code 816 = .ok (.iload_n 3, 1) := by decide +kernel
theorem dL_law_817 : decode code 817 = .ok (.iconst 1, 1) := by decide +kernel
theorem dL_law_818 : decode code 818 = .ok (.iadd, 1) := by decide +kernel
theorem dL_law_819 : decode code 819 = .ok (.iaload, 1) := by decide +kernel
theorem dL_law_820 : decode code 820 = .ok (.aload_n 0, 1) := by decide +kernel
theorem dL_law_821 : decode code 821 = .ok (.iload_n 3, 1) := by decide +kernel
theorem dL_law_822 : decode code 822 = .ok (.iconst 2, 1) := by decide +kernel
theorem dL_law_823 : decode code 823 = .ok (.iadd, 1) := by decide +kernel
theorem dL_law_824 : decode code 824 = .ok (.iaload, 1) := by decide +kernel
theorem dL_law_825 : decode code 825 = .ok (.invokevirtual 87, 3) := by decide +kernel
theorem dL_law_828 : decode code 828 = .ok (.aload_n 2, 1) := by decide +kernel
theorem dL_law_829 : decode code 829 = .ok (.aload_n 0, 1) := by decide +kernel
theorem dL_law_830 : decode code 830 = .ok (.iload_n 3, 1) := by decide +kernel
theorem dL_law_831 : decode code 831 = .ok (.iconst 1, 1) := by decide +kernel
theorem dL_law_832 : decode code 832 = .ok (.iadd, 1) := by decide +kernel
theorem dL_law_833 : decode code 833 = .ok (.iaload, 1) := by decide +kernel
theorem dL_law_834 : decode code 834 = .ok (.aload_n 0, 1) := by decide +kernel
theorem dL_law_835 : decode code 835 = .ok (.iload_n 3, 1) := by decide +kernel
theorem dL_law_836 : decode code 836 = .ok (.iconst 2, 1) := by decide +kernel
theorem dL_law_837 : decode code 837 = .ok (.iadd, 1) := by decide +kernel
theorem dL_law_838 : decode code 838 = .ok (.iaload, 1) := by decide +kernel
theorem dL_law_839 : decode code 839 = .ok (.invokevirtual 90, 3) := by decide +kernel
theorem dL_law_842 : decode code 842 = .ok (.if_icmp .eq 906, 3) := by decide +kernel
theorem dL_law_845 : decode code 845 = .ok (.iconst 0, 1) := by decide +kernel
theorem dL_law_846 : decode code 846 = .ok (.ireturn, 1) := by decide +kernel
theorem dL_law_847 : decode code 847 = .ok (.aload_n 1, 1) := by decide +kernel
theorem dL_law_848 : decode code 848 = .ok (.aload_n 0, 1) := by decide +kernel
theorem dL_law_849 : decode code 849 = .ok (.iload_n 3, 1) := by decide +kernel
theorem dL_law_850 : decode code 850 = .ok (.iconst 1, 1) := by decide +kernel
theorem dL_law_851 : decode code 851 = .ok (.iadd, 1) := by decide +kernel
theorem dL_law_852 : decode code 852 = .ok (.iaload, 1) := by decide +kernel
theorem dL_law_853 : decode code 853 = .ok (.aload_n 0, 1) := by decide +kernel
theorem dL_law_854 : decode code 854 = .ok (.iload_n 3, 1) := by decide +kernel
theorem dL_law_855 : decode code 855 = .ok (.iconst 2, 1) := by decide +kernel
theorem dL_law_856 : decode code 856 = .ok (.iadd, 1) := by decide +kernel
theorem dL_law_857 : decode code 857 = .ok (.iaload, 1) := by decide +kernel
theorem dL_law_858 : decode code 858 = .ok (.aload_n 0, 1) := by decide +kernel
theorem dL_law_859 : decode code 859 = .ok (.iload_n 3, 1) := by decide +kernel
theorem dL_law_860 : decode code 860 = .ok (.iconst 3, 1) := by decide +kernel
theorem dL_law_861 : decode code 861 = .ok (.iadd, 1) := by decide +kernel
theorem dL_law_862 : decode code 862 = .ok (.iaload, 1) := by decide +kernel
theorem dL_law_863 : decode code 863 = .ok (.invokevirtual 91, 3) := by decide +kernel
theorem dL_law_866 : decode code 866 = .ok (.aload_n 2, 1) := by decide +kernel
theorem dL_law_867 : decode code 867 = .ok (.aload_n 0, 1) := by decide +kernel
theorem dL_law_868 : decode code 868 = .ok (.iload_n 3, 1) := by decide +kernel
theorem dL_law_869 : decode code 869 = .ok (.iconst 1, 1) := by decide +kernel
theorem dL_law_870 : decode code 870 = .ok (.iadd, 1) := by decide +kernel
theorem dL_law_871 : decode code 871 = .ok (.iaload, 1) := by decide +kernel
theorem dL_law_872 : decode code 872 = .ok (.aload_n 0, 1) := by decide +kernel
theorem dL_law_873 : decode code 873 = .ok (.iload_n 3, 1) := by decide +kernel
theorem dL_law_874 : decode code 874 = .ok (.iconst 2, 1) := by decide +kernel
theorem dL_law_875 : decode code 875 = .ok (.iadd, 1) := by decide +kernel
theorem dL_law_876 : decode code 876 = .ok (.iaload, 1) := by decide +kernel
theorem dL_law_877 : decode code 877 = .ok (.aload_n 0, 1) := by decide +kernel
theorem dL_law_878 : decode code 878 = .ok (.iload_n 3, 1) := by decide +kernel
theorem dL_law_879 : decode code 879 = .ok (.iconst 3, 1) := by decide +kernel
theorem dL_law_880 : decode code 880 = .ok (.iadd, 1) := by decide +kernel
theorem dL_law_881 : decode code 881 = .ok (.iaload, 1) := by decide +kernel
theorem dL_law_882 : decode code 882 = .ok (.invokevirtual 94, 3) := by decide +kernel
theorem dL_law_885 : decode code 885 = .ok (.lcmp, 1) := by decide +kernel
theorem dL_law_886 : decode code 886 = .ok (.ifCond .eq 862, 3) := by decide +kernel
theorem dL_law_889 : decode code 889 = .ok (.iconst 0, 1) := by decide +kernel
theorem dL_law_890 : decode code 890 = .ok (.ireturn, 1) := by decide +kernel
theorem dL_law_891 : decode code 891 = .ok (.aload_n 1, 1) := by decide +kernel
theorem dL_law_892 : decode code 892 = .ok (.aload_n 0, 1) := by decide +kernel
theorem dL_law_893 : decode code 893 = .ok (.iload_n 3, 1) := by decide +kernel
theorem dL_law_894 : decode code 894 = .ok (.iconst 1, 1) := by decide +kernel
theorem dL_law_895 : decode code 895 = .ok (.iadd, 1) := by decide +kernel
theorem dL_law_896 : decode code 896 = .ok (.iaload, 1) := by decide +kernel
theorem dL_law_897 : decode code 897 = .ok (.aload_n 0, 1) := by decide +kernel
theorem dL_law_898 : decode code 898 = .ok (.iload_n 3, 1) := by decide +kernel
theorem dL_law_899 : decode code 899 = .ok (.iconst 2, 1) := by decide +kernel
theorem dL_law_900 : decode code 900 = .ok (.iadd, 1) := by decide +kernel
theorem dL_law_901 : decode code 901 = .ok (.iaload, 1) := by decide +kernel
theorem dL_law_902 : decode code 902 = .ok (.aload_n 0, 1) := by decide +kernel
theorem dL_law_903 : decode code 903 = .ok (.iload_n 3, 1) := by decide +kernel
theorem dL_law_904 : decode code 904 = .ok (.iconst 3, 1) := by decide +kernel
theorem dL_law_905 : decode code 905 = .ok (.iadd, 1) := by decide +kernel
theorem dL_law_906 : decode code 906 = .ok (.iaload, 1) := by decide +kernel
theorem dL_law_907 : decode code 907 = .ok (.invokevirtual 95, 3) := by decide +kernel
theorem dL_law_910 : decode code 910 = .ok (.aload_n 2, 1) := by decide +kernel
theorem dL_law_911 : decode code 911 = .ok (.aload_n 0, 1) := by decide +kernel
theorem dL_law_912 : decode code 912 = .ok (.iload_n 3, 1) := by decide +kernel
theorem dL_law_913 : decode code 913 = .ok (.iconst 1, 1) := by decide +kernel
theorem dL_law_914 : decode code 914 = .ok (.iadd, 1) := by decide +kernel
theorem dL_law_915 : decode code 915 = .ok (.iaload, 1) := by decide +kernel
theorem dL_law_916 : decode code 916 = .ok (.aload_n 0, 1) := by decide +kernel
theorem dL_law_917 : decode code 917 = .ok (.iload_n 3, 1) := by decide +kernel
theorem dL_law_918 : decode code 918 = .ok (.iconst 2, 1) := by decide +kernel
theorem dL_law_919 : decode code 919 = .ok (.iadd, 1) := by decide +kernel
theorem dL_law_920 : decode code 920 = .ok (.iaload, 1) := by decide +kernel
theorem dL_law_921 : decode code 921 = .ok (.aload_n 0, 1) := by decide +kernel
theorem dL_law_922 : decode code 922 = .ok (.iload_n 3, 1) := by decide +kernel
theorem dL_law_923 : decode code 923 = .ok (.iconst 3, 1) := by decide +kernel
theorem dL_law_924 : decode code 924 = .ok (.iadd, 1) := by decide +kernel
theorem dL_law_925 : decode code 925 = .ok (.iaload, 1) := by decide +kernel
theorem dL_law_926 : decode code 926 = .ok (.invokevirtual 98, 3) := by decide +kernel
theorem dL_law_929 : decode code 929 = .ok (.if_icmp .eq 819, 3) := by decide +kernel
theorem dL_law_932 : decode code 932 = .ok (.iconst 0, 1) := by decide +kernel
theorem dL_law_933 : decode code 933 = .ok (.ireturn, 1) := by decide +kernel
theorem dL_law_934 : decode code 934 = .ok (.aload_n 1, 1) := by decide +kernel
theorem dL_law_935 : decode code 935 = .ok (.aload_n 0, 1) := by decide +kernel
theorem dL_law_936 : decode code 936 = .ok (.iload_n 3, 1) := by decide +kernel
theorem dL_law_937 : decode code 937 = .ok (.iconst 1, 1) := by decide +kernel
theorem dL_law_938 : decode code 938 = .ok (.iadd, 1) := by decide +kernel
theorem dL_law_939 : decode code 939 = .ok (.iaload, 1) := by decide +kernel
theorem dL_law_940 : decode code 940 = .ok (.invokevirtual 99, 3) := by decide +kernel
theorem dL_law_943 : decode code 943 = .ok (.aload_n 2, 1) := by decide +kernel
theorem dL_law_944 : decode code 944 = .ok (.aload_n 0, 1) := by decide +kernel
theorem dL_law_945 : decode code 945 = .ok (.iload_n 3, 1) := by decide +kernel
theorem dL_law_946 : decode code 946 = .ok (.iconst 1, 1) := by decide +kernel
theorem dL_law_947 : decode code 947 = .ok (.iadd, 1) := by decide +kernel
theorem dL_law_948 : decode code 948 = .ok (.iaload, 1) := by decide +kernel
theorem dL_law_949 : decode code 949 = .ok (.invokevirtual 103, 3) := by decide +kernel
theorem dL_law_952 : decode code 952 = .ok (.if_icmp .eq 796, 3) := by decide +kernel
theorem dL_law_955 : decode code 955 = .ok (.iconst 0, 1) := by decide +kernel
theorem dL_law_956 : decode code 956 = .ok (.ireturn, 1) := by decide +kernel
theorem dL_law_957 : decode code 957 = .ok (.aload_n 1, 1) := by decide +kernel
theorem dL_law_958 : decode code 958 = .ok (.invokevirtual 104, 3) := by decide +kernel
theorem dL_law_961 : decode code 961 = .ok (.aload_n 2, 1) := by decide +kernel
theorem dL_law_962 : decode code 962 = .ok (.invokevirtual 107, 3) := by decide +kernel
theorem dL_law_965 : decode code 965 = .ok (.if_icmp .eq 783, 3) := by decide +kernel
theorem dL_law_968 : decode code 968 = .ok (.iconst 0, 1) := by decide +kernel
theorem dL_law_969 : decode code 969 = .ok (.ireturn, 1) := by decide +kernel
theorem dL_law_970 : decode code 970 = .ok (.aload_n 1, 1) := by decide +kernel
theorem dL_law_971 : decode code 971 = .ok (.invokevirtual 108, 3) := by decide +kernel
theorem dL_law_974 : decode code 974 = .ok (.aload_n 2, 1) := by decide +kernel
theorem dL_law_975 : decode code 975 = .ok (.invokevirtual 111, 3) := by decide +kernel
theorem dL_law_978 : decode code 978 = .ok (.if_icmp .eq 770, 3) := by decide +kernel
theorem dL_law_981 : decode code 981 = .ok (.iconst 0, 1) := by decide +kernel
theorem dL_law_982 : decode code 982 = .ok (.ireturn, 1) := by decide +kernel
theorem dL_law_983 : decode code 983 = .ok (.aload_n 1, 1) := by decide +kernel
theorem dL_law_984 : decode code 984 = .ok (.invokevirtual 112, 3) := by decide +kernel
theorem dL_law_987 : decode code 987 = .ok (.aload_n 2, 1) := by decide +kernel
theorem dL_law_988 : decode code 988 = .ok (.invokevirtual 115, 3) := by decide +kernel
theorem dL_law_991 : decode code 991 = .ok (.if_icmp .eq 757, 3) := by decide +kernel
theorem dL_law_994 : decode code 994 = .ok (.iconst 0, 1) := by decide +kernel
theorem dL_law_995 : decode code 995 = .ok (.ireturn, 1) := by decide +kernel
theorem dL_law_996 : decode code 996 = .ok (.aload_n 1, 1) := by decide +kernel
theorem dL_law_997 : decode code 997 = .ok (.aload_n 0, 1) := by decide +kernel
theorem dL_law_998 : decode code 998 = .ok (.iload_n 3, 1) := by decide +kernel
theorem dL_law_999 : decode code 999 = .ok (.iconst 1, 1) := by decide +kernel
theorem dL_law_1000 : decode code 1000 = .ok (.iadd, 1) := by decide +kernel
theorem dL_law_1001 : decode code 1001 = .ok (.iaload, 1) := by decide +kernel
theorem dL_law_1002 : decode code 1002 = .ok (.aload_n 0, 1) := by decide +kernel
theorem dL_law_1003 : decode code 1003 = .ok (.iload_n 3, 1) := by decide +kernel
theorem dL_law_1004 : decode code 1004 = .ok (.iconst 2, 1) := by decide +kernel
theorem dL_law_1005 : decode code 1005 = .ok (.iadd, 1) := by decide +kernel
theorem dL_law_1006 : decode code 1006 = .ok (.iaload, 1) := by decide +kernel
theorem dL_law_1007 : decode code 1007 = .ok (.invokevirtual 116, 3) := by decide +kernel
theorem dL_law_1010 : decode code 1010 = .ok (.aload_n 2, 1) := by decide +kernel
theorem dL_law_1011 : decode code 1011 = .ok (.aload_n 0, 1) := by decide +kernel
theorem dL_law_1012 : decode code 1012 = .ok (.iload_n 3, 1) := by decide +kernel
theorem dL_law_1013 : decode code 1013 = .ok (.iconst 1, 1) := by decide +kernel
theorem dL_law_1014 : decode code 1014 = .ok (.iadd, 1) := by decide +kernel
theorem dL_law_1015 : decode code 1015 = .ok (.iaload, 1) := by decide +kernel
theorem dL_law_1016 : decode code 1016 = .ok (.aload_n 0, 1) := by decide +kernel
theorem dL_law_1017 : decode code 1017 = .ok (.iload_n 3, 1) := by decide +kernel
theorem dL_law_1018 : decode code 1018 = .ok (.iconst 2, 1) := by decide +kernel
theorem dL_law_1019 : decode code 1019 = .ok (.iadd, 1) := by decide +kernel
theorem dL_law_1020 : decode code 1020 = .ok (.iaload, 1) := by decide +kernel
theorem dL_law_1021 : decode code 1021 = .ok (.invokevirtual 119, 3) := by decide +kernel
theorem dL_law_1024 : decode code 1024 = .ok (.if_icmp .eq 724, 3) := by decide +kernel
theorem dL_law_1027 : decode code 1027 = .ok (.iconst 0, 1) := by decide +kernel
theorem dL_law_1028 : decode code 1028 = .ok (.ireturn, 1) := by decide +kernel
theorem dL_law_1029 : decode code 1029 = .ok (.aload_n 1, 1) := by decide +kernel
theorem dL_law_1030 : decode code 1030 = .ok (.aload_n 0, 1) := by decide +kernel
theorem dL_law_1031 : decode code 1031 = .ok (.iload_n 3, 1) := by decide +kernel
theorem dL_law_1032 : decode code 1032 = .ok (.iconst 1, 1) := by decide +kernel
theorem dL_law_1033 : decode code 1033 = .ok (.iadd, 1) := by decide +kernel
theorem dL_law_1034 : decode code 1034 = .ok (.iaload, 1) := by decide +kernel
theorem dL_law_1035 : decode code 1035 = .ok (.aload_n 0, 1) := by decide +kernel
theorem dL_law_1036 : decode code 1036 = .ok (.iload_n 3, 1) := by decide +kernel
theorem dL_law_1037 : decode code 1037 = .ok (.iconst 2, 1) := by decide +kernel
theorem dL_law_1038 : decode code 1038 = .ok (.iadd, 1) := by decide +kernel
theorem dL_law_1039 : decode code 1039 = .ok (.iaload, 1) := by decide +kernel
theorem dL_law_1040 : decode code 1040 = .ok (.invokevirtual 120, 3) := by decide +kernel
theorem dL_law_1043 : decode code 1043 = .ok (.aload_n 2, 1) := by decide +kernel
theorem dL_law_1044 : decode code 1044 = .ok (.aload_n 0, 1) := by decide +kernel
theorem dL_law_1045 : decode code 1045 = .ok (.iload_n 3, 1) := by decide +kernel
theorem dL_law_1046 : decode code 1046 = .ok (.iconst 1, 1) := by decide +kernel
theorem dL_law_1047 : decode code 1047 = .ok (.iadd, 1) := by decide +kernel
theorem dL_law_1048 : decode code 1048 = .ok (.iaload, 1) := by decide +kernel
theorem dL_law_1049 : decode code 1049 = .ok (.aload_n 0, 1) := by decide +kernel
theorem dL_law_1050 : decode code 1050 = .ok (.iload_n 3, 1) := by decide +kernel
theorem dL_law_1051 : decode code 1051 = .ok (.iconst 2, 1) := by decide +kernel
theorem dL_law_1052 : decode code 1052 = .ok (.iadd, 1) := by decide +kernel
theorem dL_law_1053 : decode code 1053 = .ok (.iaload, 1) := by decide +kernel
theorem dL_law_1054 : decode code 1054 = .ok (.invokevirtual 123, 3) := by decide +kernel
theorem dL_law_1057 : decode code 1057 = .ok (.if_icmp .eq 691, 3) := by decide +kernel
theorem dL_law_1060 : decode code 1060 = .ok (.iconst 0, 1) := by decide +kernel
theorem dL_law_1061 : decode code 1061 = .ok (.ireturn, 1) := by decide +kernel
theorem dL_law_1062 : decode code 1062 = .ok (.aload_n 1, 1) := by decide +kernel
theorem dL_law_1063 : decode code 1063 = .ok (.aload_n 0, 1) := by decide +kernel
theorem dL_law_1064 : decode code 1064 = .ok (.iload_n 3, 1) := by decide +kernel
theorem dL_law_1065 : decode code 1065 = .ok (.iconst 1, 1) := by decide +kernel
theorem dL_law_1066 : decode code 1066 = .ok (.iadd, 1) := by decide +kernel
theorem dL_law_1067 : decode code 1067 = .ok (.iaload, 1) := by decide +kernel
theorem dL_law_1068 : decode code 1068 = .ok (.invokevirtual 124, 3) := by decide +kernel
theorem dL_law_1071 : decode code 1071 = .ok (.aload_n 2, 1) := by decide +kernel
theorem dL_law_1072 : decode code 1072 = .ok (.aload_n 0, 1) := by decide +kernel
theorem dL_law_1073 : decode code 1073 = .ok (.iload_n 3, 1) := by decide +kernel
theorem dL_law_1074 : decode code 1074 = .ok (.iconst 1, 1) := by decide +kernel
theorem dL_law_1075 : decode code 1075 = .ok (.iadd, 1) := by decide +kernel
theorem dL_law_1076 : decode code 1076 = .ok (.iaload, 1) := by decide +kernel
theorem dL_law_1077 : decode code 1077 = .ok (.invokevirtual 127, 3) := by decide +kernel
theorem dL_law_1080 : decode code 1080 = .ok (.if_icmp .eq 668, 3) := by decide +kernel
theorem dL_law_1083 : decode code 1083 = .ok (.iconst 0, 1) := by decide +kernel
theorem dL_law_1084 : decode code 1084 = .ok (.ireturn, 1) := by decide +kernel
theorem dL_law_1085 : decode code 1085 = .ok (.aload_n 1, 1) := by decide +kernel
theorem dL_law_1086 : decode code 1086 = .ok (.aload_n 0, 1) := by decide +kernel
theorem dL_law_1087 : decode code 1087 = .ok (.iload_n 3, 1) := by decide +kernel
theorem dL_law_1088 : decode code 1088 = .ok (.iconst 1, 1) := by decide +kernel
theorem dL_law_1089 : decode code 1089 = .ok (.iadd, 1) := by decide +kernel
theorem dL_law_1090 : decode code 1090 = .ok (.iaload, 1) := by decide +kernel
theorem dL_law_1091 : decode code 1091 = .ok (.invokevirtual 128, 3) := by decide +kernel
theorem dL_law_1094 : decode code 1094 = .ok (.aload_n 2, 1) := by decide +kernel
theorem dL_law_1095 : decode code 1095 = .ok (.aload_n 0, 1) := by decide +kernel
theorem dL_law_1096 : decode code 1096 = .ok (.iload_n 3, 1) := by decide +kernel
theorem dL_law_1097 : decode code 1097 = .ok (.iconst 1, 1) := by decide +kernel
theorem dL_law_1098 : decode code 1098 = .ok (.iadd, 1) := by decide +kernel
theorem dL_law_1099 : decode code 1099 = .ok (.iaload, 1) := by decide +kernel
theorem dL_law_1100 : decode code 1100 = .ok (.invokevirtual 131, 3) := by decide +kernel
theorem dL_law_1103 : decode code 1103 = .ok (.if_icmp .eq 645, 3) := by decide +kernel
theorem dL_law_1106 : decode code 1106 = .ok (.iconst 0, 1) := by decide +kernel
theorem dL_law_1107 : decode code 1107 = .ok (.ireturn, 1) := by decide +kernel
theorem dL_law_1108 : decode code 1108 = .ok (.aload_n 1, 1) := by decide +kernel
theorem dL_law_1109 : decode code 1109 = .ok (.invokevirtual 132, 3) := by decide +kernel
theorem dL_law_1112 : decode code 1112 = .ok (.aload_n 2, 1) := by decide +kernel
theorem dL_law_1113 : decode code 1113 = .ok (.invokevirtual 135, 3) := by decide +kernel
theorem dL_law_1116 : decode code 1116 = .ok (.if_icmp .eq 632, 3) := by decide +kernel
theorem dL_law_1119 : decode code 1119 = .ok (.iconst 0, 1) := by decide +kernel
theorem dL_law_1120 : decode code 1120 = .ok (.ireturn, 1) := by decide +kernel
theorem dL_law_1121 : decode code 1121 = .ok (.aload_n 1, 1) := by decide +kernel
theorem dL_law_1122 : decode code 1122 = .ok (.aload_n 0, 1) := by decide +kernel
theorem dL_law_1123 : decode code 1123 = .ok (.iload_n 3, 1) := by decide +kernel
theorem dL_law_1124 : decode code 1124 = .ok (.iconst 1, 1) := by decide +kernel
theorem dL_law_1125 : decode code 1125 = .ok (.iadd, 1) := by decide +kernel
theorem dL_law_1126 : decode code 1126 = .ok (.iaload, 1) := by decide +kernel
theorem dL_law_1127 : decode code 1127 = .ok (.invokevirtual 136, 3) := by decide +kernel
theorem dL_law_1130 : decode code 1130 = .ok (.aload_n 2, 1) := by decide +kernel
theorem dL_law_1131 : decode code 1131 = .ok (.aload_n 0, 1) := by decide +kernel
theorem dL_law_1132 : decode code 1132 = .ok (.iload_n 3, 1) := by decide +kernel
theorem dL_law_1133 : decode code 1133 = .ok (.iconst 1, 1) := by decide +kernel
theorem dL_law_1134 : decode code 1134 = .ok (.iadd, 1) := by decide +kernel
theorem dL_law_1135 : decode code 1135 = .ok (.iaload, 1) := by decide +kernel
theorem dL_law_1136 : decode code 1136 = .ok (.invokevirtual 139, 3) := by decide +kernel
theorem dL_law_1139 : decode code 1139 = .ok (.if_icmp .eq 609, 3) := by decide +kernel
theorem dL_law_1142 : decode code 1142 = .ok (.iconst 0, 1) := by decide +kernel
theorem dL_law_1143 : decode code 1143 = .ok (.ireturn, 1) := by decide +kernel
theorem dL_law_1144 : decode code 1144 = .ok (.aload_n 1, 1) := by decide +kernel
theorem dL_law_1145 : decode code 1145 = .ok (.aload_n 0, 1) := by decide +kernel
theorem dL_law_1146 : decode code 1146 = .ok (.iload_n 3, 1) := by decide +kernel
theorem dL_law_1147 : decode code 1147 = .ok (.iconst 1, 1) := by decide +kernel
theorem dL_law_1148 : decode code 1148 = .ok (.iadd, 1) := by decide +kernel
theorem dL_law_1149 : decode code 1149 = .ok (.iaload, 1) := by decide +kernel
theorem dL_law_1150 : decode code 1150 = .ok (.invokevirtual 140, 3) := by decide +kernel
theorem dL_law_1153 : decode code 1153 = .ok (.aload_n 2, 1) := by decide +kernel
theorem dL_law_1154 : decode code 1154 = .ok (.aload_n 0, 1) := by decide +kernel
theorem dL_law_1155 : decode code 1155 = .ok (.iload_n 3, 1) := by decide +kernel
theorem dL_law_1156 : decode code 1156 = .ok (.iconst 1, 1) := by decide +kernel
theorem dL_law_1157 : decode code 1157 = .ok (.iadd, 1) := by decide +kernel
theorem dL_law_1158 : decode code 1158 = .ok (.iaload, 1) := by decide +kernel
theorem dL_law_1159 : decode code 1159 = .ok (.invokevirtual 143, 3) := by decide +kernel
theorem dL_law_1162 : decode code 1162 = .ok (.if_icmp .eq 586, 3) := by decide +kernel
theorem dL_law_1165 : decode code 1165 = .ok (.iconst 0, 1) := by decide +kernel
theorem dL_law_1166 : decode code 1166 = .ok (.ireturn, 1) := by decide +kernel
theorem dL_law_1167 : decode code 1167 = .ok (.aload_n 1, 1) := by decide +kernel
theorem dL_law_1168 : decode code 1168 = .ok (.aload_n 0, 1) := by decide +kernel
theorem dL_law_1169 : decode code 1169 = .ok (.iload_n 3, 1) := by decide +kernel
theorem dL_law_1170 : decode code 1170 = .ok (.iconst 1, 1) := by decide +kernel
theorem dL_law_1171 : decode code 1171 = .ok (.iadd, 1) := by decide +kernel
theorem dL_law_1172 : decode code 1172 = .ok (.iaload, 1) := by decide +kernel
theorem dL_law_1173 : decode code 1173 = .ok (.aload_n 0, 1) := by decide +kernel
theorem dL_law_1174 : decode code 1174 = .ok (.iload_n 3, 1) := by decide +kernel
theorem dL_law_1175 : decode code 1175 = .ok (.iconst 2, 1) := by decide +kernel
theorem dL_law_1176 : decode code 1176 = .ok (.iadd, 1) := by decide +kernel
theorem dL_law_1177 : decode code 1177 = .ok (.iaload, 1) := by decide +kernel
theorem dL_law_1178 : decode code 1178 = .ok (.aload_n 0, 1) := by decide +kernel
theorem dL_law_1179 : decode code 1179 = .ok (.iload_n 3, 1) := by decide +kernel
theorem dL_law_1180 : decode code 1180 = .ok (.iconst 3, 1) := by decide +kernel
theorem dL_law_1181 : decode code 1181 = .ok (.iadd, 1) := by decide +kernel
theorem dL_law_1182 : decode code 1182 = .ok (.iaload, 1) := by decide +kernel
theorem dL_law_1183 : decode code 1183 = .ok (.invokevirtual 144, 3) := by decide +kernel
theorem dL_law_1186 : decode code 1186 = .ok (.aload_n 2, 1) := by decide +kernel
theorem dL_law_1187 : decode code 1187 = .ok (.aload_n 0, 1) := by decide +kernel
theorem dL_law_1188 : decode code 1188 = .ok (.iload_n 3, 1) := by decide +kernel
theorem dL_law_1189 : decode code 1189 = .ok (.iconst 1, 1) := by decide +kernel
theorem dL_law_1190 : decode code 1190 = .ok (.iadd, 1) := by decide +kernel
theorem dL_law_1191 : decode code 1191 = .ok (.iaload, 1) := by decide +kernel
theorem dL_law_1192 : decode code 1192 = .ok (.aload_n 0, 1) := by decide +kernel
theorem dL_law_1193 : decode code 1193 = .ok (.iload_n 3, 1) := by decide +kernel
theorem dL_law_1194 : decode code 1194 = .ok (.iconst 2, 1) := by decide +kernel
theorem dL_law_1195 : decode code 1195 = .ok (.iadd, 1) := by decide +kernel
theorem dL_law_1196 : decode code 1196 = .ok (.iaload, 1) := by decide +kernel
theorem dL_law_1197 : decode code 1197 = .ok (.aload_n 0, 1) := by decide +kernel
theorem dL_law_1198 : decode code 1198 = .ok (.iload_n 3, 1) := by decide +kernel
theorem dL_law_1199 : decode code 1199 = .ok (.iconst 3, 1) := by decide +kernel
theorem dL_law_1200 : decode code 1200 = .ok (.iadd, 1) := by decide +kernel
theorem dL_law_1201 : decode code 1201 = .ok (.iaload, 1) := by decide +kernel
theorem dL_law_1202 : decode code 1202 = .ok (.invokevirtual 147, 3) := by decide +kernel
theorem dL_law_1205 : decode code 1205 = .ok (.lcmp, 1) := by decide +kernel
theorem dL_law_1206 : decode code 1206 = .ok (.ifCond .eq 542, 3) := by decide +kernel
theorem dL_law_1209 : decode code 1209 = .ok (.iconst 0, 1) := by decide +kernel
theorem dL_law_1210 : decode code 1210 = .ok (.ireturn, 1) := by decide +kernel
theorem dL_law_1211 : decode code 1211 = .ok (.aload_n 1, 1) := by decide +kernel
theorem dL_law_1212 : decode code 1212 = .ok (.aload_n 0, 1) := by decide +kernel
theorem dL_law_1213 : decode code 1213 = .ok (.iload_n 3, 1) := by decide +kernel
theorem dL_law_1214 : decode code 1214 = .ok (.iconst 1, 1) := by decide +kernel
theorem dL_law_1215 : decode code 1215 = .ok (.iadd, 1) := by decide +kernel
theorem dL_law_1216 : decode code 1216 = .ok (.iaload, 1) := by decide +kernel
theorem dL_law_1217 : decode code 1217 = .ok (.aload_n 0, 1) := by decide +kernel
theorem dL_law_1218 : decode code 1218 = .ok (.iload_n 3, 1) := by decide +kernel
theorem dL_law_1219 : decode code 1219 = .ok (.iconst 2, 1) := by decide +kernel
theorem dL_law_1220 : decode code 1220 = .ok (.iadd, 1) := by decide +kernel
theorem dL_law_1221 : decode code 1221 = .ok (.iaload, 1) := by decide +kernel
theorem dL_law_1222 : decode code 1222 = .ok (.aload_n 0, 1) := by decide +kernel
theorem dL_law_1223 : decode code 1223 = .ok (.iload_n 3, 1) := by decide +kernel
theorem dL_law_1224 : decode code 1224 = .ok (.iconst 3, 1) := by decide +kernel
theorem dL_law_1225 : decode code 1225 = .ok (.iadd, 1) := by decide +kernel
theorem dL_law_1226 : decode code 1226 = .ok (.iaload, 1) := by decide +kernel
theorem dL_law_1227 : decode code 1227 = .ok (.invokevirtual 148, 3) := by decide +kernel
theorem dL_law_1230 : decode code 1230 = .ok (.aload_n 2, 1) := by decide +kernel
theorem dL_law_1231 : decode code 1231 = .ok (.aload_n 0, 1) := by decide +kernel
theorem dL_law_1232 : decode code 1232 = .ok (.iload_n 3, 1) := by decide +kernel
theorem dL_law_1233 : decode code 1233 = .ok (.iconst 1, 1) := by decide +kernel
theorem dL_law_1234 : decode code 1234 = .ok (.iadd, 1) := by decide +kernel
theorem dL_law_1235 : decode code 1235 = .ok (.iaload, 1) := by decide +kernel
theorem dL_law_1236 : decode code 1236 = .ok (.aload_n 0, 1) := by decide +kernel
theorem dL_law_1237 : decode code 1237 = .ok (.iload_n 3, 1) := by decide +kernel
theorem dL_law_1238 : decode code 1238 = .ok (.iconst 2, 1) := by decide +kernel
theorem dL_law_1239 : decode code 1239 = .ok (.iadd, 1) := by decide +kernel
theorem dL_law_1240 : decode code 1240 = .ok (.iaload, 1) := by decide +kernel
theorem dL_law_1241 : decode code 1241 = .ok (.aload_n 0, 1) := by decide +kernel
theorem dL_law_1242 : decode code 1242 = .ok (.iload_n 3, 1) := by decide +kernel
theorem dL_law_1243 : decode code 1243 = .ok (.iconst 3, 1) := by decide +kernel
theorem dL_law_1244 : decode code 1244 = .ok (.iadd, 1) := by decide +kernel
theorem dL_law_1245 : decode code 1245 = .ok (.iaload, 1) := by decide +kernel
theorem dL_law_1246 : decode code 1246 = .ok (.invokevirtual 151, 3) := by decide +kernel
theorem dL_law_1249 : decode code 1249 = .ok (.lcmp, 1) := by decide +kernel
theorem dL_law_1250 : decode code 1250 = .ok (.ifCond .eq 498, 3) := by decide +kernel
theorem dL_law_1253 : decode code 1253 = .ok (.iconst 0, 1) := by decide +kernel
theorem dL_law_1254 : decode code 1254 = .ok (.ireturn, 1) := by decide +kernel
theorem dL_law_1255 : decode code 1255 = .ok (.aload_n 1, 1) := by decide +kernel
theorem dL_law_1256 : decode code 1256 = .ok (.aload_n 0, 1) := by decide +kernel
theorem dL_law_1257 : decode code 1257 = .ok (.iload_n 3, 1) := by decide +kernel
theorem dL_law_1258 : decode code 1258 = .ok (.iconst 1, 1) := by decide +kernel
theorem dL_law_1259 : decode code 1259 = .ok (.iadd, 1) := by decide +kernel
theorem dL_law_1260 : decode code 1260 = .ok (.iaload, 1) := by decide +kernel
theorem dL_law_1261 : decode code 1261 = .ok (.aload_n 0, 1) := by decide +kernel
theorem dL_law_1262 : decode code 1262 = .ok (.iload_n 3, 1) := by decide +kernel
theorem dL_law_1263 : decode code 1263 = .ok (.iconst 2, 1) := by decide +kernel
theorem dL_law_1264 : decode code 1264 = .ok (.iadd, 1) := by decide +kernel
theorem dL_law_1265 : decode code 1265 = .ok (.iaload, 1) := by decide +kernel
theorem dL_law_1266 : decode code 1266 = .ok (.invokevirtual 152, 3) := by decide +kernel
theorem dL_law_1269 : decode code 1269 = .ok (.aload_n 2, 1) := by decide +kernel
theorem dL_law_1270 : decode code 1270 = .ok (.aload_n 0, 1) := by decide +kernel
theorem dL_law_1271 : decode code 1271 = .ok (.iload_n 3, 1) := by decide +kernel
theorem dL_law_1272 : decode code 1272 = .ok (.iconst 1, 1) := by decide +kernel
theorem dL_law_1273 : decode code 1273 = .ok (.iadd, 1) := by decide +kernel
theorem dL_law_1274 : decode code 1274 = .ok (.iaload, 1) := by decide +kernel
theorem dL_law_1275 : decode code 1275 = .ok (.aload_n 0, 1) := by decide +kernel
theorem dL_law_1276 : decode code 1276 = .ok (.iload_n 3, 1) := by decide +kernel
theorem dL_law_1277 : decode code 1277 = .ok (.iconst 2, 1) := by decide +kernel
theorem dL_law_1278 : decode code 1278 = .ok (.iadd, 1) := by decide +kernel
theorem dL_law_1279 : decode code 1279 = .ok (.iaload, 1) := by decide +kernel
theorem dL_law_1280 : decode code 1280 = .ok (.invokevirtual 155, 3) := by decide +kernel
theorem dL_law_1283 : decode code 1283 = .ok (.if_icmp .eq 465, 3) := by decide +kernel
theorem dL_law_1286 : decode code 1286 = .ok (.iconst 0, 1) := by decide +kernel
theorem dL_law_1287 : decode code 1287 = .ok (.ireturn, 1) := by decide +kernel
theorem dL_law_1288 : decode code 1288 = .ok (.aload_n 1, 1) := by decide +kernel
theorem dL_law_1289 : decode code 1289 = .ok (.aload_n 0, 1) := by decide +kernel
theorem dL_law_1290 : decode code 1290 = .ok (.iload_n 3, 1) := by decide +kernel
theorem dL_law_1291 : decode code 1291 = .ok (.iconst 1, 1) := by decide +kernel
theorem dL_law_1292 : decode code 1292 = .ok (.iadd, 1) := by decide +kernel
theorem dL_law_1293 : decode code 1293 = .ok (.iaload, 1) := by decide +kernel
theorem dL_law_1294 : decode code 1294 = .ok (.invokevirtual 156, 3) := by decide +kernel
theorem dL_law_1297 : decode code 1297 = .ok (.aload_n 2, 1) := by decide +kernel
theorem dL_law_1298 : decode code 1298 = .ok (.aload_n 0, 1) := by decide +kernel
theorem dL_law_1299 : decode code 1299 = .ok (.iload_n 3, 1) := by decide +kernel
theorem dL_law_1300 : decode code 1300 = .ok (.iconst 1, 1) := by decide +kernel
theorem dL_law_1301 : decode code 1301 = .ok (.iadd, 1) := by decide +kernel
theorem dL_law_1302 : decode code 1302 = .ok (.iaload, 1) := by decide +kernel
theorem dL_law_1303 : decode code 1303 = .ok (.invokevirtual 159, 3) := by decide +kernel
theorem dL_law_1306 : decode code 1306 = .ok (.if_icmp .eq 442, 3) := by decide +kernel
theorem dL_law_1309 : decode code 1309 = .ok (.iconst 0, 1) := by decide +kernel
theorem dL_law_1310 : decode code 1310 = .ok (.ireturn, 1) := by decide +kernel
theorem dL_law_1311 : decode code 1311 = .ok (.aload_n 1, 1) := by decide +kernel
theorem dL_law_1312 : decode code 1312 = .ok (.aload_n 0, 1) := by decide +kernel
theorem dL_law_1313 : decode code 1313 = .ok (.iload_n 3, 1) := by decide +kernel
theorem dL_law_1314 : decode code 1314 = .ok (.iconst 1, 1) := by decide +kernel
theorem dL_law_1315 : decode code 1315 = .ok (.iadd, 1) := by decide +kernel
theorem dL_law_1316 : decode code 1316 = .ok (.iaload, 1) := by decide +kernel
theorem dL_law_1317 : decode code 1317 = .ok (.aload_n 0, 1) := by decide +kernel
theorem dL_law_1318 : decode code 1318 = .ok (.iload_n 3, 1) := by decide +kernel
theorem dL_law_1319 : decode code 1319 = .ok (.iconst 2, 1) := by decide +kernel
theorem dL_law_1320 : decode code 1320 = .ok (.iadd, 1) := by decide +kernel
theorem dL_law_1321 : decode code 1321 = .ok (.iaload, 1) := by decide +kernel
theorem dL_law_1322 : decode code 1322 = .ok (.aload_n 0, 1) := by decide +kernel
theorem dL_law_1323 : decode code 1323 = .ok (.iload_n 3, 1) := by decide +kernel
theorem dL_law_1324 : decode code 1324 = .ok (.iconst 3, 1) := by decide +kernel
theorem dL_law_1325 : decode code 1325 = .ok (.iadd, 1) := by decide +kernel
theorem dL_law_1326 : decode code 1326 = .ok (.iaload, 1) := by decide +kernel
theorem dL_law_1327 : decode code 1327 = .ok (.aload_n 0, 1) := by decide +kernel
theorem dL_law_1328 : decode code 1328 = .ok (.iload_n 3, 1) := by decide +kernel
theorem dL_law_1329 : decode code 1329 = .ok (.iconst 4, 1) := by decide +kernel
theorem dL_law_1330 : decode code 1330 = .ok (.iadd, 1) := by decide +kernel
theorem dL_law_1331 : decode code 1331 = .ok (.iaload, 1) := by decide +kernel
theorem dL_law_1332 : decode code 1332 = .ok (.invokevirtual 160, 3) := by decide +kernel
theorem dL_law_1335 : decode code 1335 = .ok (.aload_n 2, 1) := by decide +kernel
theorem dL_law_1336 : decode code 1336 = .ok (.aload_n 0, 1) := by decide +kernel
theorem dL_law_1337 : decode code 1337 = .ok (.iload_n 3, 1) := by decide +kernel
theorem dL_law_1338 : decode code 1338 = .ok (.iconst 1, 1) := by decide +kernel
theorem dL_law_1339 : decode code 1339 = .ok (.iadd, 1) := by decide +kernel
theorem dL_law_1340 : decode code 1340 = .ok (.iaload, 1) := by decide +kernel
theorem dL_law_1341 : decode code 1341 = .ok (.aload_n 0, 1) := by decide +kernel
theorem dL_law_1342 : decode code 1342 = .ok (.iload_n 3, 1) := by decide +kernel
theorem dL_law_1343 : decode code 1343 = .ok (.iconst 2, 1) := by decide +kernel
theorem dL_law_1344 : decode code 1344 = .ok (.iadd, 1) := by decide +kernel
theorem dL_law_1345 : decode code 1345 = .ok (.iaload, 1) := by decide +kernel
theorem dL_law_1346 : decode code 1346 = .ok (.aload_n 0, 1) := by decide +kernel
theorem dL_law_1347 : decode code 1347 = .ok (.iload_n 3, 1) := by decide +kernel
theorem dL_law_1348 : decode code 1348 = .ok (.iconst 3, 1) := by decide +kernel
theorem dL_law_1349 : decode code 1349 = .ok (.iadd, 1) := by decide +kernel
theorem dL_law_1350 : decode code 1350 = .ok (.iaload, 1) := by decide +kernel
theorem dL_law_1351 : decode code 1351 = .ok (.aload_n 0, 1) := by decide +kernel
theorem dL_law_1352 : decode code 1352 = .ok (.iload_n 3, 1) := by decide +kernel
theorem dL_law_1353 : decode code 1353 = .ok (.iconst 4, 1) := by decide +kernel
theorem dL_law_1354 : decode code 1354 = .ok (.iadd, 1) := by decide +kernel
theorem dL_law_1355 : decode code 1355 = .ok (.iaload, 1) := by decide +kernel
theorem dL_law_1356 : decode code 1356 = .ok (.invokevirtual 164, 3) := by decide +kernel
theorem dL_law_1359 : decode code 1359 = .ok (.if_icmp .eq 389, 3) := by decide +kernel
theorem dL_law_1362 : decode code 1362 = .ok (.iconst 0, 1) := by decide +kernel
theorem dL_law_1363 : decode code 1363 = .ok (.ireturn, 1) := by decide +kernel
theorem dL_law_1364 : decode code 1364 = .ok (.aload_n 1, 1) := by decide +kernel
theorem dL_law_1365 : decode code 1365 = .ok (.aload_n 0, 1) := by decide +kernel
theorem dL_law_1366 : decode code 1366 = .ok (.iload_n 3, 1) := by decide +kernel
theorem dL_law_1367 : decode code 1367 = .ok (.iconst 1, 1) := by decide +kernel
theorem dL_law_1368 : decode code 1368 = .ok (.iadd, 1) := by decide +kernel
theorem dL_law_1369 : decode code 1369 = .ok (.iaload, 1) := by decide +kernel
theorem dL_law_1370 : decode code 1370 = .ok (.invokevirtual 165, 3) := by decide +kernel
theorem dL_law_1373 : decode code 1373 = .ok (.aload_n 2, 1) := by decide +kernel
theorem dL_law_1374 : decode code 1374 = .ok (.aload_n 0, 1) := by decide +kernel
theorem dL_law_1375 : decode code 1375 = .ok (.iload_n 3, 1) := by decide +kernel
theorem dL_law_1376 : decode code 1376 = .ok (.iconst 1, 1) := by decide +kernel
theorem dL_law_1377 : decode code 1377 = .ok (.iadd, 1) := by decide +kernel
theorem dL_law_1378 : decode code 1378 = .ok (.iaload, 1) := by decide +kernel
theorem dL_law_1379 : decode code 1379 = .ok (.invokevirtual 168, 3) := by decide +kernel
theorem dL_law_1382 : decode code 1382 = .ok (.if_icmp .eq 366, 3) := by decide +kernel
theorem dL_law_1385 : decode code 1385 = .ok (.iconst 0, 1) := by decide +kernel
theorem dL_law_1386 : decode code 1386 = .ok (.ireturn, 1) := by decide +kernel
theorem dL_law_1387 : decode code 1387 = .ok (.aload_n 1, 1) := by decide +kernel
theorem dL_law_1388 : decode code 1388 = .ok (.aload_n 0, 1) := by decide +kernel
theorem dL_law_1389 : decode code 1389 = .ok (.iload_n 3, 1) := by decide +kernel
theorem dL_law_1390 : decode code 1390 = .ok (.iconst 1, 1) := by decide +kernel
theorem dL_law_1391 : decode code 1391 = .ok (.iadd, 1) := by decide +kernel
theorem dL_law_1392 : decode code 1392 = .ok (.iaload, 1) := by decide +kernel
theorem dL_law_1393 : decode code 1393 = .ok (.aload_n 0, 1) := by decide +kernel
theorem dL_law_1394 : decode code 1394 = .ok (.iload_n 3, 1) := by decide +kernel
theorem dL_law_1395 : decode code 1395 = .ok (.iconst 2, 1) := by decide +kernel
theorem dL_law_1396 : decode code 1396 = .ok (.iadd, 1) := by decide +kernel
theorem dL_law_1397 : decode code 1397 = .ok (.iaload, 1) := by decide +kernel
theorem dL_law_1398 : decode code 1398 = .ok (.aload_n 0, 1) := by decide +kernel
theorem dL_law_1399 : decode code 1399 = .ok (.iload_n 3, 1) := by decide +kernel
theorem dL_law_1400 : decode code 1400 = .ok (.iconst 3, 1) := by decide +kernel
theorem dL_law_1401 : decode code 1401 = .ok (.iadd, 1) := by decide +kernel
theorem dL_law_1402 : decode code 1402 = .ok (.iaload, 1) := by decide +kernel
theorem dL_law_1403 : decode code 1403 = .ok (.invokevirtual 169, 3) := by decide +kernel
theorem dL_law_1406 : decode code 1406 = .ok (.aload_n 2, 1) := by decide +kernel
theorem dL_law_1407 : decode code 1407 = .ok (.aload_n 0, 1) := by decide +kernel
theorem dL_law_1408 : decode code 1408 = .ok (.iload_n 3, 1) := by decide +kernel
theorem dL_law_1409 : decode code 1409 = .ok (.iconst 1, 1) := by decide +kernel
theorem dL_law_1410 : decode code 1410 = .ok (.iadd, 1) := by decide +kernel
theorem dL_law_1411 : decode code 1411 = .ok (.iaload, 1) := by decide +kernel
theorem dL_law_1412 : decode code 1412 = .ok (.aload_n 0, 1) := by decide +kernel
theorem dL_law_1413 : decode code 1413 = .ok (.iload_n 3, 1) := by decide +kernel
theorem dL_law_1414 : decode code 1414 = .ok (.iconst 2, 1) := by decide +kernel
theorem dL_law_1415 : decode code 1415 = .ok (.iadd, 1) := by decide +kernel
theorem dL_law_1416 : decode code 1416 = .ok (.iaload, 1) := by decide +kernel
theorem dL_law_1417 : decode code 1417 = .ok (.aload_n 0, 1) := by decide +kernel
theorem dL_law_1418 : decode code 1418 = .ok (.iload_n 3, 1) := by decide +kernel
theorem dL_law_1419 : decode code 1419 = .ok (.iconst 3, 1) := by decide +kernel
theorem dL_law_1420 : decode code 1420 = .ok (.iadd, 1) := by decide +kernel
theorem dL_law_1421 : decode code 1421 = .ok (.iaload, 1) := by decide +kernel
theorem dL_law_1422 : decode code 1422 = .ok (.invokevirtual 172, 3) := by decide +kernel
theorem dL_law_1425 : decode code 1425 = .ok (.if_icmp .eq 323, 3) := by decide +kernel
theorem dL_law_1428 : decode code 1428 = .ok (.iconst 0, 1) := by decide +kernel
theorem dL_law_1429 : decode code 1429 = .ok (.ireturn, 1) := by decide +kernel
theorem dL_law_1430 : decode code 1430 = .ok (.aload_n 1, 1) := by decide +kernel
theorem dL_law_1431 : decode code 1431 = .ok (.aload_n 0, 1) := by decide +kernel
theorem dL_law_1432 : decode code 1432 = .ok (.iload_n 3, 1) := by decide +kernel
theorem dL_law_1433 : decode code 1433 = .ok (.iconst 1, 1) := by decide +kernel
theorem dL_law_1434 : decode code 1434 = .ok (.iadd, 1) := by decide +kernel
theorem dL_law_1435 : decode code 1435 = .ok (.iaload, 1) := by decide +kernel
theorem dL_law_1436 : decode code 1436 = .ok (.aload_n 0, 1) := by decide +kernel
theorem dL_law_1437 : decode code 1437 = .ok (.iload_n 3, 1) := by decide +kernel
theorem dL_law_1438 : decode code 1438 = .ok (.iconst 2, 1) := by decide +kernel
theorem dL_law_1439 : decode code 1439 = .ok (.iadd, 1) := by decide +kernel
theorem dL_law_1440 : decode code 1440 = .ok (.iaload, 1) := by decide +kernel
theorem dL_law_1441 : decode code 1441 = .ok (.aload_n 0, 1) := by decide +kernel
theorem dL_law_1442 : decode code 1442 = .ok (.iload_n 3, 1) := by decide +kernel
theorem dL_law_1443 : decode code 1443 = .ok (.iconst 3, 1) := by decide +kernel
theorem dL_law_1444 : decode code 1444 = .ok (.iadd, 1) := by decide +kernel
theorem dL_law_1445 : decode code 1445 = .ok (.iaload, 1) := by decide +kernel
theorem dL_law_1446 : decode code 1446 = .ok (.invokevirtual 173, 3) := by decide +kernel
theorem dL_law_1449 : decode code 1449 = .ok (.aload_n 2, 1) := by decide +kernel
theorem dL_law_1450 : decode code 1450 = .ok (.aload_n 0, 1) := by decide +kernel
theorem dL_law_1451 : decode code 1451 = .ok (.iload_n 3, 1) := by decide +kernel
theorem dL_law_1452 : decode code 1452 = .ok (.iconst 1, 1) := by decide +kernel
theorem dL_law_1453 : decode code 1453 = .ok (.iadd, 1) := by decide +kernel
theorem dL_law_1454 : decode code 1454 = .ok (.iaload, 1) := by decide +kernel
theorem dL_law_1455 : decode code 1455 = .ok (.aload_n 0, 1) := by decide +kernel
theorem dL_law_1456 : decode code 1456 = .ok (.iload_n 3, 1) := by decide +kernel
theorem dL_law_1457 : decode code 1457 = .ok (.iconst 2, 1) := by decide +kernel
theorem dL_law_1458 : decode code 1458 = .ok (.iadd, 1) := by decide +kernel
theorem dL_law_1459 : decode code 1459 = .ok (.iaload, 1) := by decide +kernel
theorem dL_law_1460 : decode code 1460 = .ok (.aload_n 0, 1) := by decide +kernel
theorem dL_law_1461 : decode code 1461 = .ok (.iload_n 3, 1) := by decide +kernel
theorem dL_law_1462 : decode code 1462 = .ok (.iconst 3, 1) := by decide +kernel
theorem dL_law_1463 : decode code 1463 = .ok (.iadd, 1) := by decide +kernel
theorem dL_law_1464 : decode code 1464 = .ok (.iaload, 1) := by decide +kernel
theorem dL_law_1465 : decode code 1465 = .ok (.invokevirtual 176, 3) := by decide +kernel
theorem dL_law_1468 : decode code 1468 = .ok (.if_icmp .eq 280, 3) := by decide +kernel
theorem dL_law_1471 : decode code 1471 = .ok (.iconst 0, 1) := by decide +kernel
theorem dL_law_1472 : decode code 1472 = .ok (.ireturn, 1) := by decide +kernel
theorem dL_law_1473 : decode code 1473 = .ok (.aload_n 1, 1) := by decide +kernel
theorem dL_law_1474 : decode code 1474 = .ok (.aload_n 0, 1) := by decide +kernel
theorem dL_law_1475 : decode code 1475 = .ok (.iload_n 3, 1) := by decide +kernel
theorem dL_law_1476 : decode code 1476 = .ok (.iconst 1, 1) := by decide +kernel
theorem dL_law_1477 : decode code 1477 = .ok (.iadd, 1) := by decide +kernel
theorem dL_law_1478 : decode code 1478 = .ok (.iaload, 1) := by decide +kernel
theorem dL_law_1479 : decode code 1479 = .ok (.aload_n 0, 1) := by decide +kernel
theorem dL_law_1480 : decode code 1480 = .ok (.iload_n 3, 1) := by decide +kernel
theorem dL_law_1481 : decode code 1481 = .ok (.iconst 2, 1) := by decide +kernel
theorem dL_law_1482 : decode code 1482 = .ok (.iadd, 1) := by decide +kernel
theorem dL_law_1483 : decode code 1483 = .ok (.iaload, 1) := by decide +kernel
theorem dL_law_1484 : decode code 1484 = .ok (.invokevirtual 177, 3) := by decide +kernel
theorem dL_law_1487 : decode code 1487 = .ok (.aload_n 2, 1) := by decide +kernel
theorem dL_law_1488 : decode code 1488 = .ok (.aload_n 0, 1) := by decide +kernel
theorem dL_law_1489 : decode code 1489 = .ok (.iload_n 3, 1) := by decide +kernel
theorem dL_law_1490 : decode code 1490 = .ok (.iconst 1, 1) := by decide +kernel
theorem dL_law_1491 : decode code 1491 = .ok (.iadd, 1) := by decide +kernel
theorem dL_law_1492 : decode code 1492 = .ok (.iaload, 1) := by decide +kernel
theorem dL_law_1493 : decode code 1493 = .ok (.aload_n 0, 1) := by decide +kernel
theorem dL_law_1494 : decode code 1494 = .ok (.iload_n 3, 1) := by decide +kernel
theorem dL_law_1495 : decode code 1495 = .ok (.iconst 2, 1) := by decide +kernel
theorem dL_law_1496 : decode code 1496 = .ok (.iadd, 1) := by decide +kernel
theorem dL_law_1497 : decode code 1497 = .ok (.iaload, 1) := by decide +kernel
theorem dL_law_1498 : decode code 1498 = .ok (.invokevirtual 180, 3) := by decide +kernel
theorem dL_law_1501 : decode code 1501 = .ok (.if_icmp .eq 247, 3) := by decide +kernel
theorem dL_law_1504 : decode code 1504 = .ok (.iconst 0, 1) := by decide +kernel
theorem dL_law_1505 : decode code 1505 = .ok (.ireturn, 1) := by decide +kernel
theorem dL_law_1506 : decode code 1506 = .ok (.aload_n 1, 1) := by decide +kernel
theorem dL_law_1507 : decode code 1507 = .ok (.aload_n 0, 1) := by decide +kernel
theorem dL_law_1508 : decode code 1508 = .ok (.iload_n 3, 1) := by decide +kernel
theorem dL_law_1509 : decode code 1509 = .ok (.iconst 1, 1) := by decide +kernel
theorem dL_law_1510 : decode code 1510 = .ok (.iadd, 1) := by decide +kernel
theorem dL_law_1511 : decode code 1511 = .ok (.iaload, 1) := by decide +kernel
theorem dL_law_1512 : decode code 1512 = .ok (.aload_n 0, 1) := by decide +kernel
theorem dL_law_1513 : decode code 1513 = .ok (.iload_n 3, 1) := by decide +kernel
theorem dL_law_1514 : decode code 1514 = .ok (.iconst 2, 1) := by decide +kernel
theorem dL_law_1515 : decode code 1515 = .ok (.iadd, 1) := by decide +kernel
theorem dL_law_1516 : decode code 1516 = .ok (.iaload, 1) := by decide +kernel
theorem dL_law_1517 : decode code 1517 = .ok (.invokevirtual 181, 3) := by decide +kernel
theorem dL_law_1520 : decode code 1520 = .ok (.aload_n 2, 1) := by decide +kernel
theorem dL_law_1521 : decode code 1521 = .ok (.aload_n 0, 1) := by decide +kernel
theorem dL_law_1522 : decode code 1522 = .ok (.iload_n 3, 1) := by decide +kernel
theorem dL_law_1523 : decode code 1523 = .ok (.iconst 1, 1) := by decide +kernel
theorem dL_law_1524 : decode code 1524 = .ok (.iadd, 1) := by decide +kernel
theorem dL_law_1525 : decode code 1525 = .ok (.iaload, 1) := by decide +kernel
theorem dL_law_1526 : decode code 1526 = .ok (.aload_n 0, 1) := by decide +kernel
theorem dL_law_1527 : decode code 1527 = .ok (.iload_n 3, 1) := by decide +kernel
theorem dL_law_1528 : decode code 1528 = .ok (.iconst 2, 1) := by decide +kernel
theorem dL_law_1529 : decode code 1529 = .ok (.iadd, 1) := by decide +kernel
theorem dL_law_1530 : decode code 1530 = .ok (.iaload, 1) := by decide +kernel
theorem dL_law_1531 : decode code 1531 = .ok (.invokevirtual 184, 3) := by decide +kernel
theorem dL_law_1534 : decode code 1534 = .ok (.if_icmp .eq 214, 3) := by decide +kernel
theorem dL_law_1537 : decode code 1537 = .ok (.iconst 0, 1) := by decide +kernel
theorem dL_law_1538 : decode code 1538 = .ok (.ireturn, 1) := by decide +kernel
theorem dL_law_1539 : decode code 1539 = .ok (.aload_n 1, 1) := by decide +kernel
theorem dL_law_1540 : decode code 1540 = .ok (.aload_n 0, 1) := by decide +kernel
theorem dL_law_1541 : decode code 1541 = .ok (.iload_n 3, 1) := by decide +kernel
theorem dL_law_1542 : decode code 1542 = .ok (.iconst 1, 1) := by decide +kernel
theorem dL_law_1543 : decode code 1543 = .ok (.iadd, 1) := by decide +kernel
theorem dL_law_1544 : decode code 1544 = .ok (.iaload, 1) := by decide +kernel
theorem dL_law_1545 : decode code 1545 = .ok (.aload_n 0, 1) := by decide +kernel
theorem dL_law_1546 : decode code 1546 = .ok (.iload_n 3, 1) := by decide +kernel
theorem dL_law_1547 : decode code 1547 = .ok (.iconst 2, 1) := by decide +kernel
theorem dL_law_1548 : decode code 1548 = .ok (.iadd, 1) := by decide +kernel
theorem dL_law_1549 : decode code 1549 = .ok (.iaload, 1) := by decide +kernel
theorem dL_law_1550 : decode code 1550 = .ok (.invokevirtual 185, 3) := by decide +kernel
theorem dL_law_1553 : decode code 1553 = .ok (.aload_n 2, 1) := by decide +kernel
theorem dL_law_1554 : decode code 1554 = .ok (.aload_n 0, 1) := by decide +kernel
theorem dL_law_1555 : decode code 1555 = .ok (.iload_n 3, 1) := by decide +kernel
theorem dL_law_1556 : decode code 1556 = .ok (.iconst 1, 1) := by decide +kernel
theorem dL_law_1557 : decode code 1557 = .ok (.iadd, 1) := by decide +kernel
theorem dL_law_1558 : decode code 1558 = .ok (.iaload, 1) := by decide +kernel
theorem dL_law_1559 : decode code 1559 = .ok (.aload_n 0, 1) := by decide +kernel
theorem dL_law_1560 : decode code 1560 = .ok (.iload_n 3, 1) := by decide +kernel
theorem dL_law_1561 : decode code 1561 = .ok (.iconst 2, 1) := by decide +kernel
theorem dL_law_1562 : decode code 1562 = .ok (.iadd, 1) := by decide +kernel
theorem dL_law_1563 : decode code 1563 = .ok (.iaload, 1) := by decide +kernel
theorem dL_law_1564 : decode code 1564 = .ok (.invokevirtual 188, 3) := by decide +kernel
theorem dL_law_1567 : decode code 1567 = .ok (.if_icmp .eq 181, 3) := by decide +kernel
theorem dL_law_1570 : decode code 1570 = .ok (.iconst 0, 1) := by decide +kernel
theorem dL_law_1571 : decode code 1571 = .ok (.ireturn, 1) := by decide +kernel
theorem dL_law_1572 : decode code 1572 = .ok (.aload_n 1, 1) := by decide +kernel
theorem dL_law_1573 : decode code 1573 = .ok (.aload_n 0, 1) := by decide +kernel
theorem dL_law_1574 : decode code 1574 = .ok (.iload_n 3, 1) := by decide +kernel
theorem dL_law_1575 : decode code 1575 = .ok (.iconst 1, 1) := by decide +kernel
theorem dL_law_1576 : decode code 1576 = .ok (.iadd, 1) := by decide +kernel
theorem dL_law_1577 : decode code 1577 = .ok (.iaload, 1) := by decide +kernel
theorem dL_law_1578 : decode code 1578 = .ok (.aload_n 0, 1) := by decide +kernel
theorem dL_law_1579 : decode code 1579 = .ok (.iload_n 3, 1) := by decide +kernel
theorem dL_law_1580 : decode code 1580 = .ok (.iconst 2, 1) := by decide +kernel
theorem dL_law_1581 : decode code 1581 = .ok (.iadd, 1) := by decide +kernel
theorem dL_law_1582 : decode code 1582 = .ok (.iaload, 1) := by decide +kernel
theorem dL_law_1583 : decode code 1583 = .ok (.aload_n 0, 1) := by decide +kernel
theorem dL_law_1584 : decode code 1584 = .ok (.iload_n 3, 1) := by decide +kernel
theorem dL_law_1585 : decode code 1585 = .ok (.iconst 3, 1) := by decide +kernel
theorem dL_law_1586 : decode code 1586 = .ok (.iadd, 1) := by decide +kernel
theorem dL_law_1587 : decode code 1587 = .ok (.iaload, 1) := by decide +kernel
theorem dL_law_1588 : decode code 1588 = .ok (.i2l, 1) := by decide +kernel
theorem dL_law_1589 : decode code 1589 = .ok (.bipush 32, 2) := by decide +kernel
theorem dL_law_1591 : decode code 1591 = .ok (.lshl, 1) := by decide +kernel
theorem dL_law_1592 : decode code 1592 = .ok (.aload_n 0, 1) := by decide +kernel
theorem dL_law_1593 : decode code 1593 = .ok (.iload_n 3, 1) := by decide +kernel
theorem dL_law_1594 : decode code 1594 = .ok (.iconst 4, 1) := by decide +kernel
theorem dL_law_1595 : decode code 1595 = .ok (.iadd, 1) := by decide +kernel
theorem dL_law_1596 : decode code 1596 = .ok (.iaload, 1) := by decide +kernel
theorem dL_law_1597 : decode code 1597 = .ok (.i2l, 1) := by decide +kernel
theorem dL_law_1598 : decode code 1598 = .ok (.ldc2_w 189, 3) := by decide +kernel
theorem dL_law_1601 : decode code 1601 = .ok (.land, 1) := by decide +kernel
theorem dL_law_1602 : decode code 1602 = .ok (.lor, 1) := by decide +kernel
theorem dL_law_1603 : decode code 1603 = .ok (.invokevirtual 191, 3) := by decide +kernel
theorem dL_law_1606 : decode code 1606 = .ok (.aload_n 2, 1) := by decide +kernel
theorem dL_law_1607 : decode code 1607 = .ok (.aload_n 0, 1) := by decide +kernel
theorem dL_law_1608 : decode code 1608 = .ok (.iload_n 3, 1) := by decide +kernel
theorem dL_law_1609 : decode code 1609 = .ok (.iconst 1, 1) := by decide +kernel
theorem dL_law_1610 : decode code 1610 = .ok (.iadd, 1) := by decide +kernel
theorem dL_law_1611 : decode code 1611 = .ok (.iaload, 1) := by decide +kernel
theorem dL_law_1612 : decode code 1612 = .ok (.aload_n 0, 1) := by decide +kernel
theorem dL_law_1613 : decode code 1613 = .ok (.iload_n 3, 1) := by decide +kernel
theorem dL_law_1614 : decode code 1614 = .ok (.iconst 2, 1) := by decide +kernel
theorem dL_law_1615 : decode code 1615 = .ok (.iadd, 1) := by decide +kernel
theorem dL_law_1616 : decode code 1616 = .ok (.iaload, 1) := by decide +kernel
theorem dL_law_1617 : decode code 1617 = .ok (.aload_n 0, 1) := by decide +kernel
theorem dL_law_1618 : decode code 1618 = .ok (.iload_n 3, 1) := by decide +kernel
theorem dL_law_1619 : decode code 1619 = .ok (.iconst 3, 1) := by decide +kernel
theorem dL_law_1620 : decode code 1620 = .ok (.iadd, 1) := by decide +kernel
theorem dL_law_1621 : decode code 1621 = .ok (.iaload, 1) := by decide +kernel
theorem dL_law_1622 : decode code 1622 = .ok (.i2l, 1) := by decide +kernel
theorem dL_law_1623 : decode code 1623 = .ok (.bipush 32, 2) := by decide +kernel
theorem dL_law_1625 : decode code 1625 = .ok (.lshl, 1) := by decide +kernel
theorem dL_law_1626 : decode code 1626 = .ok (.aload_n 0, 1) := by decide +kernel
theorem dL_law_1627 : decode code 1627 = .ok (.iload_n 3, 1) := by decide +kernel
theorem dL_law_1628 : decode code 1628 = .ok (.iconst 4, 1) := by decide +kernel
theorem dL_law_1629 : decode code 1629 = .ok (.iadd, 1) := by decide +kernel
theorem dL_law_1630 : decode code 1630 = .ok (.iaload, 1) := by decide +kernel
theorem dL_law_1631 : decode code 1631 = .ok (.i2l, 1) := by decide +kernel
theorem dL_law_1632 : decode code 1632 = .ok (.ldc2_w 189, 3) := by decide +kernel
theorem dL_law_1635 : decode code 1635 = .ok (.land, 1) := by decide +kernel
theorem dL_law_1636 : decode code 1636 = .ok (.lor, 1) := by decide +kernel
theorem dL_law_1637 : decode code 1637 = .ok (.invokevirtual 195, 3) := by decide +kernel
theorem dL_law_1640 : decode code 1640 = .ok (.if_icmp .eq 108, 3) := by decide +kernel
theorem dL_law_1643 : decode code 1643 = .ok (.iconst 0, 1) := by decide +kernel
theorem dL_law_1644 : decode code 1644 = .ok (.ireturn, 1) := by decide +kernel
theorem dL_law_1645 : decode code 1645 = .ok (.aload_n 1, 1) := by decide +kernel
theorem dL_law_1646 : decode code 1646 = .ok (.aload_n 0, 1) := by decide +kernel
theorem dL_law_1647 : decode code 1647 = .ok (.iload_n 3, 1) := by decide +kernel
theorem dL_law_1648 : decode code 1648 = .ok (.iconst 1, 1) := by decide +kernel
theorem dL_law_1649 : decode code 1649 = .ok (.iadd, 1) := by decide +kernel
theorem dL_law_1650 : decode code 1650 = .ok (.iaload, 1) := by decide +kernel
theorem dL_law_1651 : decode code 1651 = .ok (.aload_n 0, 1) := by decide +kernel
theorem dL_law_1652 : decode code 1652 = .ok (.iload_n 3, 1) := by decide +kernel
theorem dL_law_1653 : decode code 1653 = .ok (.iconst 2, 1) := by decide +kernel
theorem dL_law_1654 : decode code 1654 = .ok (.iadd, 1) := by decide +kernel
theorem dL_law_1655 : decode code 1655 = .ok (.iaload, 1) := by decide +kernel
theorem dL_law_1656 : decode code 1656 = .ok (.invokevirtual 196, 3) := by decide +kernel
theorem dL_law_1659 : decode code 1659 = .ok (.aload_n 2, 1) := by decide +kernel
theorem dL_law_1660 : decode code 1660 = .ok (.aload_n 0, 1) := by decide +kernel
theorem dL_law_1661 : decode code 1661 = .ok (.iload_n 3, 1) := by decide +kernel
theorem dL_law_1662 : decode code 1662 = .ok (.iconst 1, 1) := by decide +kernel
theorem dL_law_1663 : decode code 1663 = .ok (.iadd, 1) := by decide +kernel
theorem dL_law_1664 : decode code 1664 = .ok (.iaload, 1) := by decide +kernel
theorem dL_law_1665 : decode code 1665 = .ok (.aload_n 0, 1) := by decide +kernel
theorem dL_law_1666 : decode code 1666 = .ok (.iload_n 3, 1) := by decide +kernel
theorem dL_law_1667 : decode code 1667 = .ok (.iconst 2, 1) := by decide +kernel
theorem dL_law_1668 : decode code 1668 = .ok (.iadd, 1) := by decide +kernel
theorem dL_law_1669 : decode code 1669 = .ok (.iaload, 1) := by decide +kernel
theorem dL_law_1670 : decode code 1670 = .ok (.invokevirtual 199, 3) := by decide +kernel
theorem dL_law_1673 : decode code 1673 = .ok (.lcmp, 1) := by decide +kernel
theorem dL_law_1674 : decode code 1674 = .ok (.ifCond .eq 74, 3) := by decide +kernel
theorem dL_law_1677 : decode code 1677 = .ok (.iconst 0, 1) := by decide +kernel
theorem dL_law_1678 : decode code 1678 = .ok (.ireturn, 1) := by decide +kernel
theorem dL_law_1679 : decode code 1679 = .ok (.aload_n 1, 1) := by decide +kernel
theorem dL_law_1680 : decode code 1680 = .ok (.aload_n 0, 1) := by decide +kernel
theorem dL_law_1681 : decode code 1681 = .ok (.iload_n 3, 1) := by decide +kernel
theorem dL_law_1682 : decode code 1682 = .ok (.iconst 1, 1) := by decide +kernel
theorem dL_law_1683 : decode code 1683 = .ok (.iadd, 1) := by decide +kernel
theorem dL_law_1684 : decode code 1684 = .ok (.iaload, 1) := by decide +kernel
theorem dL_law_1685 : decode code 1685 = .ok (.aload_n 0, 1) := by decide +kernel
theorem dL_law_1686 : decode code 1686 = .ok (.iload_n 3, 1) := by decide +kernel
theorem dL_law_1687 : decode code 1687 = .ok (.iconst 2, 1) := by decide +kernel
theorem dL_law_1688 : decode code 1688 = .ok (.iadd, 1) := by decide +kernel
theorem dL_law_1689 : decode code 1689 = .ok (.iaload, 1) := by decide +kernel
theorem dL_law_1690 : decode code 1690 = .ok (.aload_n 0, 1) := by decide +kernel
theorem dL_law_1691 : decode code 1691 = .ok (.iload_n 3, 1) := by decide +kernel
theorem dL_law_1692 : decode code 1692 = .ok (.iconst 3, 1) := by decide +kernel
theorem dL_law_1693 : decode code 1693 = .ok (.iadd, 1) := by decide +kernel
theorem dL_law_1694 : decode code 1694 = .ok (.iaload, 1) := by decide +kernel
theorem dL_law_1695 : decode code 1695 = .ok (.invokevirtual 200, 3) := by decide +kernel
theorem dL_law_1698 : decode code 1698 = .ok (.aload_n 2, 1) := by decide +kernel
theorem dL_law_1699 : decode code 1699 = .ok (.aload_n 0, 1) := by decide +kernel
theorem dL_law_1700 : decode code 1700 = .ok (.iload_n 3, 1) := by decide +kernel
theorem dL_law_1701 : decode code 1701 = .ok (.iconst 1, 1) := by decide +kernel
theorem dL_law_1702 : decode code 1702 = .ok (.iadd, 1) := by decide +kernel
theorem dL_law_1703 : decode code 1703 = .ok (.iaload, 1) := by decide +kernel
theorem dL_law_1704 : decode code 1704 = .ok (.aload_n 0, 1) := by decide +kernel
theorem dL_law_1705 : decode code 1705 = .ok (.iload_n 3, 1) := by decide +kernel
theorem dL_law_1706 : decode code 1706 = .ok (.iconst 2, 1) := by decide +kernel
theorem dL_law_1707 : decode code 1707 = .ok (.iadd, 1) := by decide +kernel
theorem dL_law_1708 : decode code 1708 = .ok (.iaload, 1) := by decide +kernel
theorem dL_law_1709 : decode code 1709 = .ok (.aload_n 0, 1) := by decide +kernel
theorem dL_law_1710 : decode code 1710 = .ok (.iload_n 3, 1) := by decide +kernel
theorem dL_law_1711 : decode code 1711 = .ok (.iconst 3, 1) := by decide +kernel
theorem dL_law_1712 : decode code 1712 = .ok (.iadd, 1) := by decide +kernel
theorem dL_law_1713 : decode code 1713 = .ok (.iaload, 1) := by decide +kernel
theorem dL_law_1714 : decode code 1714 = .ok (.invokevirtual 203, 3) := by decide +kernel
theorem dL_law_1717 : decode code 1717 = .ok (.if_icmp .eq 31, 3) := by decide +kernel
theorem dL_law_1720 : decode code 1720 = .ok (.iconst 0, 1) := by decide +kernel
theorem dL_law_1721 : decode code 1721 = .ok (.ireturn, 1) := by decide +kernel
theorem dL_law_1722 : decode code 1722 = .ok (.aload_n 1, 1) := by decide +kernel
theorem dL_law_1723 : decode code 1723 = .ok (.invokevirtual 204, 3) := by decide +kernel
theorem dL_law_1726 : decode code 1726 = .ok (.aload_n 2, 1) := by decide +kernel
theorem dL_law_1727 : decode code 1727 = .ok (.invokevirtual 207, 3) := by decide +kernel
theorem dL_law_1730 : decode code 1730 = .ok (.if_icmp .eq 18, 3) := by decide +kernel
theorem dL_law_1733 : decode code 1733 = .ok (.iconst 0, 1) := by decide +kernel
theorem dL_law_1734 : decode code 1734 = .ok (.ireturn, 1) := by decide +kernel
theorem dL_law_1735 : decode code 1735 = .ok (.aload_n 1, 1) := by decide +kernel
theorem dL_law_1736 : decode code 1736 = .ok (.invokevirtual 208, 3) := by decide +kernel
theorem dL_law_1739 : decode code 1739 = .ok (.aload_n 2, 1) := by decide +kernel
theorem dL_law_1740 : decode code 1740 = .ok (.invokevirtual 211, 3) := by decide +kernel
theorem dL_law_1743 : decode code 1743 = .ok (.if_icmp .eq 5, 3) := by decide +kernel
theorem dL_law_1746 : decode code 1746 = .ok (.iconst 0, 1) := by decide +kernel
theorem dL_law_1747 : decode code 1747 = .ok (.ireturn, 1) := by decide +kernel
theorem dL_law_1748 : decode code 1748 = .ok (.iinc 3 5, 3) := by decide +kernel
theorem dL_law_1751 : decode code 1751 = .ok (.goto (-1733), 3) := by decide +kernel
theorem dL_law_1754 : decode code 1754 = .ok (.iconst 1, 1) := by decide +kernel
theorem dL_law_1755 : decode code 1755 = .ok (.ireturn, 1) := by decide +kernel
def m_L_law_J1748 (sc : Nat → Int32) (L : Nat) (N : Nat) (mc ms : Nat) (k18 : Nat → Nat → Int32 → mM → Nat → Nat → Option (Unit)) (a1 : Nat) (a2 : Nat) (i3 : Int32) (M : mM) (kc ks : Nat) : Option (Unit) :=
  k18 a1 a2 (i3 + 5) M kc ks
set_option maxHeartbeats 4000000 in
set_option maxRecDepth 100000 in
theorem t_L_law_J1748 {X : mX} {L0 : Launch} {nm : String} {res : Unit} {sc : Nat → Int32} {L : Nat} {N : Nat} {mc ms : Nat} (C : CX X RL nm code 4 (some .boolean)) (E : EXL X L0 mc ms) (HX : HXP X L sc) (k18 : Nat → Nat → Int32 → mM → Nat → Nat → Option (Unit)) (Hk18 : ∀ (a1 : Nat) (a2 : Nat) (i3 : Int32) (M : mM) (kc ks : Nat) (hk : kc ≤ mc ∧ ks ≤ ms), k18 a1 a2 i3 M kc ks = some res → EV X 4 18 [(0, .ref 9), (1, .ref a1), (2, .ref a2), (3, .int i3)] [] kc ks M) (a1 : Nat) (a2 : Nat) (i3 : Int32) (M : mM) (kc ks : Nat) (hk : kc ≤ mc ∧ ks ≤ ms) (hf : m_L_law_J1748 sc L N mc ms k18 a1 a2 i3 M kc ks = some res) : EV X 4 1748 [(0, .ref 9), (1, .ref a1), (2, .ref a2), (3, .int i3)] [] kc ks M := by
  unfold m_L_law_J1748 at hf
  refine ev_iinc (v := i3 + 5) (l' := [(3, .int (i3 + 5)), (0, .ref 9), (1, .ref a1), (2, .ref a2)]) C dL_law_1748 (q := 3) rfl rfl (by decide) rfl ?_
  refine ev_goto (tgt := 18) C dL_law_1751 (by decide) ?_
  refine ev_sub [1, 2, 3, 0] rfl ?_
  exact Hk18 a1 a2 (i3 + 5) M kc ks hk hf
def m_L_law_J236 (sc : Nat → Int32) (L : Nat) (N : Nat) (mc ms : Nat) (k18 : Nat → Nat → Int32 → mM → Nat → Nat → Option (Unit)) (a1 : Nat) (a2 : Nat) (i3 : Int32) (M : mM) (kc ks : Nat) : Option (Unit) :=
  (sld sc L (i3 + 1)).bind fun x1 =>
  (sld sc L (i3 + 2)).bind fun x3 =>
  (oO M a1 11).bind fun _ =>
  (m_X11_fare N a1 x1 x3 M).bind fun x7 =>
  (sld sc L (i3 + 1)).bind fun x9 =>
  (sld sc L (i3 + 2)).bind fun x11 =>
  (oO x7.2 a2 12).bind fun _ =>
  (m_X12_fare N a2 x9 x11 x7.2).bind fun x15 =>
  if x7.1 = x15.1 then (
    m_L_law_J1748 sc L N mc ms k18 a1 a2 i3 x15.2 kc ks) else (
    none)
set_option maxHeartbeats 4000000 in
set_option maxRecDepth 100000 in
theorem t_L_law_J236 {X : mX} {L0 : Launch} {nm : String} {res : Unit} {sc : Nat → Int32} {L : Nat} {N : Nat} {mc ms : Nat} (C : CX X RL nm code 4 (some .boolean)) (E : EXL X L0 mc ms) (HX : HXP X L sc) (k18 : Nat → Nat → Int32 → mM → Nat → Nat → Option (Unit)) (Hk18 : ∀ (a1 : Nat) (a2 : Nat) (i3 : Int32) (M : mM) (kc ks : Nat) (hk : kc ≤ mc ∧ ks ≤ ms), k18 a1 a2 i3 M kc ks = some res → EV X 4 18 [(0, .ref 9), (1, .ref a1), (2, .ref a2), (3, .int i3)] [] kc ks M) (a1 : Nat) (a2 : Nat) (i3 : Int32) (M : mM) (kc ks : Nat) (hk : kc ≤ mc ∧ ks ≤ ms) (hf : m_L_law_J236 sc L N mc ms k18 a1 a2 i3 M kc ks = some res) : EV X 4 236 [(0, .ref 9), (1, .ref a1), (2, .ref a2), (3, .int i3)] [] kc ks M := by
  unfold m_L_law_J236 at hf
  refine ev_aload_n C dL_law_236 rfl (q := 1) rfl ?_
  refine ev_aload_n C dL_law_237 rfl (q := 0) rfl ?_
  refine ev_iload_n C dL_law_238 rfl (q := 3) rfl ?_
  refine ev_iconst (v := 1) C dL_law_239 (by decide) ?_
  refine ev_iadd C dL_law_240 ?_
  obtain ⟨x1, e2, hf⟩ := obnd hf
  refine ev_sld HX C dL_law_241 e2 ?_
  refine ev_aload_n C dL_law_242 rfl (q := 0) rfl ?_
  refine ev_iload_n C dL_law_243 rfl (q := 3) rfl ?_
  refine ev_iconst (v := 2) C dL_law_244 (by decide) ?_
  refine ev_iadd C dL_law_245 ?_
  obtain ⟨x3, e4, hf⟩ := obnd hf
  refine ev_sld HX C dL_law_246 e4 ?_
  obtain ⟨_, e5, hf⟩ := obnd hf
  obtain ⟨fs6, e5⟩ := oO_eq e5
  obtain ⟨x7, e8, hf⟩ := obnd hf
  refine ev_callV0 (As := [.int x1, .int x3]) (st := []) C rfl e5 (t_X11_fare e8) rfl hd_X11_fare rfl kw_429 kw_430 kw_70 kw_431 kw_432 (mRoomL E (Nat.le_of_ble_eq_true rfl) (Nat.le_of_ble_eq_true rfl) hk.1 hk.2) (Nat.le_of_ble_eq_true rfl) dL_law_247 ?_
  refine ev_aload_n C dL_law_250 rfl (q := 2) rfl ?_
  refine ev_aload_n C dL_law_251 rfl (q := 0) rfl ?_
  refine ev_iload_n C dL_law_252 rfl (q := 3) rfl ?_
  refine ev_iconst (v := 1) C dL_law_253 (by decide) ?_
  refine ev_iadd C dL_law_254 ?_
  obtain ⟨x9, e10, hf⟩ := obnd hf
  refine ev_sld HX C dL_law_255 e10 ?_
  refine ev_aload_n C dL_law_256 rfl (q := 0) rfl ?_
  refine ev_iload_n C dL_law_257 rfl (q := 3) rfl ?_
  refine ev_iconst (v := 2) C dL_law_258 (by decide) ?_
  refine ev_iadd C dL_law_259 ?_
  obtain ⟨x11, e12, hf⟩ := obnd hf
  refine ev_sld HX C dL_law_260 e12 ?_
  obtain ⟨_, e13, hf⟩ := obnd hf
  obtain ⟨fs14, e13⟩ := oO_eq e13
  obtain ⟨x15, e16, hf⟩ := obnd hf
  refine ev_callV0 (As := [.int x9, .int x11]) (st := [.int x7.1]) C rfl e13 (t_X12_fare e16) rfl hd_X12_fare rfl kw_1248 kw_1249 kw_87 kw_1250 kw_1251 (mRoomL E (Nat.le_of_ble_eq_true rfl) (Nat.le_of_ble_eq_true rfl) hk.1 hk.2) (Nat.le_of_ble_eq_true rfl) dL_law_261 ?_
  refine ev_icmp_eq (tgt := 1748) C dL_law_264 (by decide) (fun hc => ?_) (fun hc => ?_)
  · have hf := oit hf hc
    exact t_L_law_J1748 C E HX k18 Hk18 a1 a2 i3 x15.2 kc ks hk hf
  · have hf := oie hf hc
    refine ev_iconst (v := 0) C dL_law_267 (by decide) ?_
    cases hf
def m_L_law_J269 (sc : Nat → Int32) (L : Nat) (N : Nat) (mc ms : Nat) (k18 : Nat → Nat → Int32 → mM → Nat → Nat → Option (Unit)) (a1 : Nat) (a2 : Nat) (i3 : Int32) (M : mM) (kc ks : Nat) : Option (Unit) :=
  (sld sc L (i3 + 1)).bind fun x1 =>
  (sld sc L (i3 + 2)).bind fun x3 =>
  (oO M a1 11).bind fun _ =>
  (m_X11_of a1 x1 x3 M).bind fun x7 =>
  (sld sc L (i3 + 1)).bind fun x9 =>
  (sld sc L (i3 + 2)).bind fun x11 =>
  (oO M a2 12).bind fun _ =>
  (m_X12_of a2 x9 x11 M).bind fun x15 =>
  if x7 = x15 then (
    m_L_law_J1748 sc L N mc ms k18 a1 a2 i3 M kc ks) else (
    none)
set_option maxHeartbeats 4000000 in
set_option maxRecDepth 100000 in
theorem t_L_law_J269 {X : mX} {L0 : Launch} {nm : String} {res : Unit} {sc : Nat → Int32} {L : Nat} {N : Nat} {mc ms : Nat} (C : CX X RL nm code 4 (some .boolean)) (E : EXL X L0 mc ms) (HX : HXP X L sc) (k18 : Nat → Nat → Int32 → mM → Nat → Nat → Option (Unit)) (Hk18 : ∀ (a1 : Nat) (a2 : Nat) (i3 : Int32) (M : mM) (kc ks : Nat) (hk : kc ≤ mc ∧ ks ≤ ms), k18 a1 a2 i3 M kc ks = some res → EV X 4 18 [(0, .ref 9), (1, .ref a1), (2, .ref a2), (3, .int i3)] [] kc ks M) (a1 : Nat) (a2 : Nat) (i3 : Int32) (M : mM) (kc ks : Nat) (hk : kc ≤ mc ∧ ks ≤ ms) (hf : m_L_law_J269 sc L N mc ms k18 a1 a2 i3 M kc ks = some res) : EV X 4 269 [(0, .ref 9), (1, .ref a1), (2, .ref a2), (3, .int i3)] [] kc ks M := by
  unfold m_L_law_J269 at hf
  refine ev_aload_n C dL_law_269 rfl (q := 1) rfl ?_
  refine ev_aload_n C dL_law_270 rfl (q := 0) rfl ?_
  refine ev_iload_n C dL_law_271 rfl (q := 3) rfl ?_
  refine ev_iconst (v := 1) C dL_law_272 (by decide) ?_
  refine ev_iadd C dL_law_273 ?_
  obtain ⟨x1, e2, hf⟩ := obnd hf
  refine ev_sld HX C dL_law_274 e2 ?_
  refine ev_aload_n C dL_law_275 rfl (q := 0) rfl ?_
  refine ev_iload_n C dL_law_276 rfl (q := 3) rfl ?_
  refine ev_iconst (v := 2) C dL_law_277 (by decide) ?_
  refine ev_iadd C dL_law_278 ?_
  obtain ⟨x3, e4, hf⟩ := obnd hf
  refine ev_sld HX C dL_law_279 e4 ?_
  obtain ⟨_, e5, hf⟩ := obnd hf
  obtain ⟨fs6, e5⟩ := oO_eq e5
  obtain ⟨x7, e8, hf⟩ := obnd hf
  refine ev_callV0 (As := [.int x1, .int x3]) (st := []) C rfl e5 (t_X11_of e8) rfl hd_X11_of rfl kw_447 kw_448 kw_70 kw_449 kw_450 (mRoomL E (Nat.le_of_ble_eq_true rfl) (Nat.le_of_ble_eq_true rfl) hk.1 hk.2) (Nat.le_of_ble_eq_true rfl) dL_law_280 ?_
  refine ev_aload_n C dL_law_283 rfl (q := 2) rfl ?_
  refine ev_aload_n C dL_law_284 rfl (q := 0) rfl ?_
  refine ev_iload_n C dL_law_285 rfl (q := 3) rfl ?_
  refine ev_iconst (v := 1) C dL_law_286 (by decide) ?_
  refine ev_iadd C dL_law_287 ?_
  obtain ⟨x9, e10, hf⟩ := obnd hf
  refine ev_sld HX C dL_law_288 e10 ?_
  refine ev_aload_n C dL_law_289 rfl (q := 0) rfl ?_
  refine ev_iload_n C dL_law_290 rfl (q := 3) rfl ?_
  refine ev_iconst (v := 2) C dL_law_291 (by decide) ?_
  refine ev_iadd C dL_law_292 ?_
  obtain ⟨x11, e12, hf⟩ := obnd hf
  refine ev_sld HX C dL_law_293 e12 ?_
  obtain ⟨_, e13, hf⟩ := obnd hf
  obtain ⟨fs14, e13⟩ := oO_eq e13
  obtain ⟨x15, e16, hf⟩ := obnd hf
  refine ev_callV0 (As := [.int x9, .int x11]) (st := [.int x7]) C rfl e13 (t_X12_of e16) rfl hd_X12_of rfl kw_1257 kw_1258 kw_87 kw_1259 kw_1260 (mRoomL E (Nat.le_of_ble_eq_true rfl) (Nat.le_of_ble_eq_true rfl) hk.1 hk.2) (Nat.le_of_ble_eq_true rfl) dL_law_294 ?_
  refine ev_icmp_eq (tgt := 1748) C dL_law_297 (by decide) (fun hc => ?_) (fun hc => ?_)
  · have hf := oit hf hc
    exact t_L_law_J1748 C E HX k18 Hk18 a1 a2 i3 M kc ks hk hf
  · have hf := oie hf hc
    refine ev_iconst (v := 0) C dL_law_300 (by decide) ?_
    cases hf
def m_L_law_J302 (sc : Nat → Int32) (L : Nat) (N : Nat) (mc ms : Nat) (k18 : Nat → Nat → Int32 → mM → Nat → Nat → Option (Unit)) (a1 : Nat) (a2 : Nat) (i3 : Int32) (M : mM) (kc ks : Nat) : Option (Unit) :=
  (sld sc L (i3 + 1)).bind fun x1 =>
  (sld sc L (i3 + 2)).bind fun x3 =>
  (sld sc L (i3 + 3)).bind fun x5 =>
  (oO M a1 11).bind fun _ =>
  (m_X11_odds N a1 x1 x3 x5 M).bind fun x9 =>
  (sld sc L (i3 + 1)).bind fun x11 =>
  (sld sc L (i3 + 2)).bind fun x13 =>
  (sld sc L (i3 + 3)).bind fun x15 =>
  (oO x9.2 a2 12).bind fun _ =>
  (m_X12_odds_ N a2 x11 x13 x15 x9.2).bind fun x19 =>
  if x9.1 = x19.1 then (
    m_L_law_J1748 sc L N mc ms k18 a1 a2 i3 x19.2 kc ks) else (
    none)
set_option maxHeartbeats 4000000 in
set_option maxRecDepth 100000 in
theorem t_L_law_J302 {X : mX} {L0 : Launch} {nm : String} {res : Unit} {sc : Nat → Int32} {L : Nat} {N : Nat} {mc ms : Nat} (C : CX X RL nm code 4 (some .boolean)) (E : EXL X L0 mc ms) (HX : HXP X L sc) (k18 : Nat → Nat → Int32 → mM → Nat → Nat → Option (Unit)) (Hk18 : ∀ (a1 : Nat) (a2 : Nat) (i3 : Int32) (M : mM) (kc ks : Nat) (hk : kc ≤ mc ∧ ks ≤ ms), k18 a1 a2 i3 M kc ks = some res → EV X 4 18 [(0, .ref 9), (1, .ref a1), (2, .ref a2), (3, .int i3)] [] kc ks M) (a1 : Nat) (a2 : Nat) (i3 : Int32) (M : mM) (kc ks : Nat) (hk : kc ≤ mc ∧ ks ≤ ms) (hf : m_L_law_J302 sc L N mc ms k18 a1 a2 i3 M kc ks = some res) : EV X 4 302 [(0, .ref 9), (1, .ref a1), (2, .ref a2), (3, .int i3)] [] kc ks M := by
  unfold m_L_law_J302 at hf
  refine ev_aload_n C dL_law_302 rfl (q := 1) rfl ?_
  refine ev_aload_n C dL_law_303 rfl (q := 0) rfl ?_
  refine ev_iload_n C dL_law_304 rfl (q := 3) rfl ?_
  refine ev_iconst (v := 1) C dL_law_305 (by decide) ?_
  refine ev_iadd C dL_law_306 ?_
  obtain ⟨x1, e2, hf⟩ := obnd hf
  refine ev_sld HX C dL_law_307 e2 ?_
  refine ev_aload_n C dL_law_308 rfl (q := 0) rfl ?_
  refine ev_iload_n C dL_law_309 rfl (q := 3) rfl ?_
  refine ev_iconst (v := 2) C dL_law_310 (by decide) ?_
  refine ev_iadd C dL_law_311 ?_
  obtain ⟨x3, e4, hf⟩ := obnd hf
  refine ev_sld HX C dL_law_312 e4 ?_
  refine ev_aload_n C dL_law_313 rfl (q := 0) rfl ?_
  refine ev_iload_n C dL_law_314 rfl (q := 3) rfl ?_
  refine ev_iconst (v := 3) C dL_law_315 (by decide) ?_
  refine ev_iadd C dL_law_316 ?_
  obtain ⟨x5, e6, hf⟩ := obnd hf
  refine ev_sld HX C dL_law_317 e6 ?_
  obtain ⟨_, e7, hf⟩ := obnd hf
  obtain ⟨fs8, e7⟩ := oO_eq e7
  obtain ⟨x9, e10, hf⟩ := obnd hf
  refine ev_callV0 (As := [.int x1, .int x3, .int x5]) (st := []) C rfl e7 (t_X11_odds e10) rfl hd_X11_odds rfl kw_455 kw_456 kw_70 kw_457 kw_458 (mRoomL E (Nat.le_of_ble_eq_true rfl) (Nat.le_of_ble_eq_true rfl) hk.1 hk.2) (Nat.le_of_ble_eq_true rfl) dL_law_318 ?_
  refine ev_aload_n C dL_law_321 rfl (q := 2) rfl ?_
  refine ev_aload_n C dL_law_322 rfl (q := 0) rfl ?_
  refine ev_iload_n C dL_law_323 rfl (q := 3) rfl ?_
  refine ev_iconst (v := 1) C dL_law_324 (by decide) ?_
  refine ev_iadd C dL_law_325 ?_
  obtain ⟨x11, e12, hf⟩ := obnd hf
  refine ev_sld HX C dL_law_326 e12 ?_
  refine ev_aload_n C dL_law_327 rfl (q := 0) rfl ?_
  refine ev_iload_n C dL_law_328 rfl (q := 3) rfl ?_
  refine ev_iconst (v := 2) C dL_law_329 (by decide) ?_
  refine ev_iadd C dL_law_330 ?_
  obtain ⟨x13, e14, hf⟩ := obnd hf
  refine ev_sld HX C dL_law_331 e14 ?_
  refine ev_aload_n C dL_law_332 rfl (q := 0) rfl ?_
  refine ev_iload_n C dL_law_333 rfl (q := 3) rfl ?_
  refine ev_iconst (v := 3) C dL_law_334 (by decide) ?_
  refine ev_iadd C dL_law_335 ?_
  obtain ⟨x15, e16, hf⟩ := obnd hf
  refine ev_sld HX C dL_law_336 e16 ?_
  obtain ⟨_, e17, hf⟩ := obnd hf
  obtain ⟨fs18, e17⟩ := oO_eq e17
  obtain ⟨x19, e20, hf⟩ := obnd hf
  refine ev_callV0 (As := [.int x11, .int x13, .int x15]) (st := [.int x9.1]) C rfl e17 (t_X12_odds_ e20) rfl hd_X12_odds_ rfl kw_1270 kw_1271 kw_87 kw_1272 kw_1273 (mRoomL E (Nat.le_of_ble_eq_true rfl) (Nat.le_of_ble_eq_true rfl) hk.1 hk.2) (Nat.le_of_ble_eq_true rfl) dL_law_337 ?_
  refine ev_icmp_eq (tgt := 1748) C dL_law_340 (by decide) (fun hc => ?_) (fun hc => ?_)
  · have hf := oit hf hc
    exact t_L_law_J1748 C E HX k18 Hk18 a1 a2 i3 x19.2 kc ks hk hf
  · have hf := oie hf hc
    refine ev_iconst (v := 0) C dL_law_343 (by decide) ?_
    cases hf
def m_L_law_J345 (sc : Nat → Int32) (L : Nat) (N : Nat) (mc ms : Nat) (k18 : Nat → Nat → Int32 → mM → Nat → Nat → Option (Unit)) (a1 : Nat) (a2 : Nat) (i3 : Int32) (M : mM) (kc ks : Nat) : Option (Unit) :=
  (oO M a1 11).bind fun _ =>
  (m_X11_drop a1 M).bind fun x3 =>
  (oO x3.2 a2 12).bind fun _ =>
  (m_X12_drop a2 x3.2).bind fun x7 =>
  if x3.1 = x7.1 then (
    m_L_law_J1748 sc L N mc ms k18 a1 a2 i3 x7.2 kc ks) else (
    none)
set_option maxHeartbeats 4000000 in
set_option maxRecDepth 100000 in
theorem t_L_law_J345 {X : mX} {L0 : Launch} {nm : String} {res : Unit} {sc : Nat → Int32} {L : Nat} {N : Nat} {mc ms : Nat} (C : CX X RL nm code 4 (some .boolean)) (E : EXL X L0 mc ms) (HX : HXP X L sc) (k18 : Nat → Nat → Int32 → mM → Nat → Nat → Option (Unit)) (Hk18 : ∀ (a1 : Nat) (a2 : Nat) (i3 : Int32) (M : mM) (kc ks : Nat) (hk : kc ≤ mc ∧ ks ≤ ms), k18 a1 a2 i3 M kc ks = some res → EV X 4 18 [(0, .ref 9), (1, .ref a1), (2, .ref a2), (3, .int i3)] [] kc ks M) (a1 : Nat) (a2 : Nat) (i3 : Int32) (M : mM) (kc ks : Nat) (hk : kc ≤ mc ∧ ks ≤ ms) (hf : m_L_law_J345 sc L N mc ms k18 a1 a2 i3 M kc ks = some res) : EV X 4 345 [(0, .ref 9), (1, .ref a1), (2, .ref a2), (3, .int i3)] [] kc ks M := by
  unfold m_L_law_J345 at hf
  refine ev_aload_n C dL_law_345 rfl (q := 1) rfl ?_
  obtain ⟨_, e1, hf⟩ := obnd hf
  obtain ⟨fs2, e1⟩ := oO_eq e1
  obtain ⟨x3, e4, hf⟩ := obnd hf
  refine ev_callV0 (As := []) (st := []) C rfl e1 (t_X11_drop e4) rfl hd_X11_drop rfl kw_463 kw_464 kw_70 kw_465 kw_466 (mRoomL E (Nat.le_of_ble_eq_true rfl) (Nat.le_of_ble_eq_true rfl) hk.1 hk.2) (Nat.le_of_ble_eq_true rfl) dL_law_346 ?_
  refine ev_aload_n C dL_law_349 rfl (q := 2) rfl ?_
  obtain ⟨_, e5, hf⟩ := obnd hf
  obtain ⟨fs6, e5⟩ := oO_eq e5
  obtain ⟨x7, e8, hf⟩ := obnd hf
  refine ev_callV0 (As := []) (st := [.int x3.1]) C rfl e5 (t_X12_drop e8) rfl hd_X12_drop rfl kw_1275 kw_1276 kw_87 kw_1277 kw_1278 (mRoomL E (Nat.le_of_ble_eq_true rfl) (Nat.le_of_ble_eq_true rfl) hk.1 hk.2) (Nat.le_of_ble_eq_true rfl) dL_law_350 ?_
  refine ev_icmp_eq (tgt := 1748) C dL_law_353 (by decide) (fun hc => ?_) (fun hc => ?_)
  · have hf := oit hf hc
    exact t_L_law_J1748 C E HX k18 Hk18 a1 a2 i3 x7.2 kc ks hk hf
  · have hf := oie hf hc
    refine ev_iconst (v := 0) C dL_law_356 (by decide) ?_
    cases hf
def m_L_law_J358 (sc : Nat → Int32) (L : Nat) (N : Nat) (mc ms : Nat) (k18 : Nat → Nat → Int32 → mM → Nat → Nat → Option (Unit)) (a1 : Nat) (a2 : Nat) (i3 : Int32) (M : mM) (kc ks : Nat) : Option (Unit) :=
  (sld sc L (i3 + 1)).bind fun x1 =>
  (sld sc L (i3 + 2)).bind fun x3 =>
  (oO M a1 11).bind fun _ =>
  (m_X11_rule a1 x1 x3 M).bind fun x7 =>
  (sld sc L (i3 + 1)).bind fun x9 =>
  (sld sc L (i3 + 2)).bind fun x11 =>
  (oO x7.2 a2 12).bind fun _ =>
  (m_X12_rule a2 x9 x11 x7.2).bind fun x15 =>
  if x7.1 = x15.1 then (
    m_L_law_J1748 sc L N mc ms k18 a1 a2 i3 x15.2 kc ks) else (
    none)
set_option maxHeartbeats 4000000 in
set_option maxRecDepth 100000 in
theorem t_L_law_J358 {X : mX} {L0 : Launch} {nm : String} {res : Unit} {sc : Nat → Int32} {L : Nat} {N : Nat} {mc ms : Nat} (C : CX X RL nm code 4 (some .boolean)) (E : EXL X L0 mc ms) (HX : HXP X L sc) (k18 : Nat → Nat → Int32 → mM → Nat → Nat → Option (Unit)) (Hk18 : ∀ (a1 : Nat) (a2 : Nat) (i3 : Int32) (M : mM) (kc ks : Nat) (hk : kc ≤ mc ∧ ks ≤ ms), k18 a1 a2 i3 M kc ks = some res → EV X 4 18 [(0, .ref 9), (1, .ref a1), (2, .ref a2), (3, .int i3)] [] kc ks M) (a1 : Nat) (a2 : Nat) (i3 : Int32) (M : mM) (kc ks : Nat) (hk : kc ≤ mc ∧ ks ≤ ms) (hf : m_L_law_J358 sc L N mc ms k18 a1 a2 i3 M kc ks = some res) : EV X 4 358 [(0, .ref 9), (1, .ref a1), (2, .ref a2), (3, .int i3)] [] kc ks M := by
  unfold m_L_law_J358 at hf
  refine ev_aload_n C dL_law_358 rfl (q := 1) rfl ?_
  refine ev_aload_n C dL_law_359 rfl (q := 0) rfl ?_
  refine ev_iload_n C dL_law_360 rfl (q := 3) rfl ?_
  refine ev_iconst (v := 1) C dL_law_361 (by decide) ?_
  refine ev_iadd C dL_law_362 ?_
  obtain ⟨x1, e2, hf⟩ := obnd hf
  refine ev_sld HX C dL_law_363 e2 ?_
  refine ev_aload_n C dL_law_364 rfl (q := 0) rfl ?_
  refine ev_iload_n C dL_law_365 rfl (q := 3) rfl ?_
  refine ev_iconst (v := 2) C dL_law_366 (by decide) ?_
  refine ev_iadd C dL_law_367 ?_
  obtain ⟨x3, e4, hf⟩ := obnd hf
  refine ev_sld HX C dL_law_368 e4 ?_
  obtain ⟨_, e5, hf⟩ := obnd hf
  obtain ⟨fs6, e5⟩ := oO_eq e5
  obtain ⟨x7, e8, hf⟩ := obnd hf
  refine ev_callV0 (As := [.int x1, .int x3]) (st := []) C rfl e5 (t_X11_rule e8) rfl hd_X11_rule rfl kw_467 kw_468 kw_70 kw_469 kw_470 (mRoomL E (Nat.le_of_ble_eq_true rfl) (Nat.le_of_ble_eq_true rfl) hk.1 hk.2) (Nat.le_of_ble_eq_true rfl) dL_law_369 ?_
  refine ev_aload_n C dL_law_372 rfl (q := 2) rfl ?_
  refine ev_aload_n C dL_law_373 rfl (q := 0) rfl ?_
  refine ev_iload_n C dL_law_374 rfl (q := 3) rfl ?_
  refine ev_iconst (v := 1) C dL_law_375 (by decide) ?_
  refine ev_iadd C dL_law_376 ?_
  obtain ⟨x9, e10, hf⟩ := obnd hf
  refine ev_sld HX C dL_law_377 e10 ?_
  refine ev_aload_n C dL_law_378 rfl (q := 0) rfl ?_
  refine ev_iload_n C dL_law_379 rfl (q := 3) rfl ?_
  refine ev_iconst (v := 2) C dL_law_380 (by decide) ?_
  refine ev_iadd C dL_law_381 ?_
  obtain ⟨x11, e12, hf⟩ := obnd hf
  refine ev_sld HX C dL_law_382 e12 ?_
  obtain ⟨_, e13, hf⟩ := obnd hf
  obtain ⟨fs14, e13⟩ := oO_eq e13
  obtain ⟨x15, e16, hf⟩ := obnd hf
  refine ev_callV0 (As := [.int x9, .int x11]) (st := [.int x7.1]) C rfl e13 (t_X12_rule e16) rfl hd_X12_rule rfl kw_1279 kw_1280 kw_87 kw_1281 kw_1282 (mRoomL E (Nat.le_of_ble_eq_true rfl) (Nat.le_of_ble_eq_true rfl) hk.1 hk.2) (Nat.le_of_ble_eq_true rfl) dL_law_383 ?_
  refine ev_icmp_eq (tgt := 1748) C dL_law_386 (by decide) (fun hc => ?_) (fun hc => ?_)
  · have hf := oit hf hc
    exact t_L_law_J1748 C E HX k18 Hk18 a1 a2 i3 x15.2 kc ks hk hf
  · have hf := oie hf hc
    refine ev_iconst (v := 0) C dL_law_389 (by decide) ?_
    cases hf
def m_L_law_J391 (sc : Nat → Int32) (L : Nat) (N : Nat) (mc ms : Nat) (k18 : Nat → Nat → Int32 → mM → Nat → Nat → Option (Unit)) (a1 : Nat) (a2 : Nat) (i3 : Int32) (M : mM) (kc ks : Nat) : Option (Unit) :=
  (sld sc L (i3 + 1)).bind fun x1 =>
  (oO M a1 11).bind fun _ =>
  (m_X11_shows N a1 x1 M).bind fun x5 =>
  (sld sc L (i3 + 1)).bind fun x7 =>
  (oO M a2 12).bind fun _ =>
  (m_X12_shows N a2 x7 M).bind fun x11 =>
  if (lg_cmp x5 x11) = 0 then (
    m_L_law_J1748 sc L N mc ms k18 a1 a2 i3 M kc ks) else (
    none)
set_option maxHeartbeats 4000000 in
set_option maxRecDepth 100000 in
theorem t_L_law_J391 {X : mX} {L0 : Launch} {nm : String} {res : Unit} {sc : Nat → Int32} {L : Nat} {N : Nat} {mc ms : Nat} (C : CX X RL nm code 4 (some .boolean)) (E : EXL X L0 mc ms) (HX : HXP X L sc) (k18 : Nat → Nat → Int32 → mM → Nat → Nat → Option (Unit)) (Hk18 : ∀ (a1 : Nat) (a2 : Nat) (i3 : Int32) (M : mM) (kc ks : Nat) (hk : kc ≤ mc ∧ ks ≤ ms), k18 a1 a2 i3 M kc ks = some res → EV X 4 18 [(0, .ref 9), (1, .ref a1), (2, .ref a2), (3, .int i3)] [] kc ks M) (a1 : Nat) (a2 : Nat) (i3 : Int32) (M : mM) (kc ks : Nat) (hk : kc ≤ mc ∧ ks ≤ ms) (hf : m_L_law_J391 sc L N mc ms k18 a1 a2 i3 M kc ks = some res) : EV X 4 391 [(0, .ref 9), (1, .ref a1), (2, .ref a2), (3, .int i3)] [] kc ks M := by
  unfold m_L_law_J391 at hf
  refine ev_aload_n C dL_law_391 rfl (q := 1) rfl ?_
  refine ev_aload_n C dL_law_392 rfl (q := 0) rfl ?_
  refine ev_iload_n C dL_law_393 rfl (q := 3) rfl ?_
  refine ev_iconst (v := 1) C dL_law_394 (by decide) ?_
  refine ev_iadd C dL_law_395 ?_
  obtain ⟨x1, e2, hf⟩ := obnd hf
  refine ev_sld HX C dL_law_396 e2 ?_
  obtain ⟨_, e3, hf⟩ := obnd hf
  obtain ⟨fs4, e3⟩ := oO_eq e3
  obtain ⟨x5, e6, hf⟩ := obnd hf
  refine ev_callV0 (As := [.int x1]) (st := []) C rfl e3 (t_X11_shows e6) rfl hd_X11_shows rfl kw_477 kw_478 kw_70 kw_479 kw_480 (mRoomL E (Nat.le_of_ble_eq_true rfl) (Nat.le_of_ble_eq_true rfl) hk.1 hk.2) (Nat.le_of_ble_eq_true rfl) dL_law_397 ?_
  refine ev_aload_n C dL_law_400 rfl (q := 2) rfl ?_
  refine ev_aload_n C dL_law_401 rfl (q := 0) rfl ?_
  refine ev_iload_n C dL_law_402 rfl (q := 3) rfl ?_
  refine ev_iconst (v := 1) C dL_law_403 (by decide) ?_
  refine ev_iadd C dL_law_404 ?_
  obtain ⟨x7, e8, hf⟩ := obnd hf
  refine ev_sld HX C dL_law_405 e8 ?_
  obtain ⟨_, e9, hf⟩ := obnd hf
  obtain ⟨fs10, e9⟩ := oO_eq e9
  obtain ⟨x11, e12, hf⟩ := obnd hf
  refine ev_callV0 (As := [.int x7]) (st := [.long x5]) C rfl e9 (t_X12_shows e12) rfl hd_X12_shows rfl kw_1285 kw_1286 kw_87 kw_1287 kw_1288 (mRoomL E (Nat.le_of_ble_eq_true rfl) (Nat.le_of_ble_eq_true rfl) hk.1 hk.2) (Nat.le_of_ble_eq_true rfl) dL_law_406 ?_
  refine ev_lcmp C dL_law_409 ?_
  refine ev_if_eq (tgt := 1748) C dL_law_410 (by decide) (fun hc => ?_) (fun hc => ?_)
  · have hf := oit hf hc
    exact t_L_law_J1748 C E HX k18 Hk18 a1 a2 i3 M kc ks hk hf
  · have hf := oie hf hc
    refine ev_iconst (v := 0) C dL_law_413 (by decide) ?_
    cases hf
def m_L_law_J415 (sc : Nat → Int32) (L : Nat) (N : Nat) (mc ms : Nat) (k18 : Nat → Nat → Int32 → mM → Nat → Nat → Option (Unit)) (a1 : Nat) (a2 : Nat) (i3 : Int32) (M : mM) (kc ks : Nat) : Option (Unit) :=
  (sld sc L (i3 + 1)).bind fun x1 =>
  (sld sc L (i3 + 2)).bind fun x3 =>
  (oO M a1 11).bind fun _ =>
  (m_X11_net N a1 x1 x3 M).bind fun x7 =>
  (sld sc L (i3 + 1)).bind fun x9 =>
  (sld sc L (i3 + 2)).bind fun x11 =>
  (oO M a2 12).bind fun _ =>
  (m_X12_net N a2 x9 x11 M).bind fun x15 =>
  if (lg_cmp x7 x15) = 0 then (
    m_L_law_J1748 sc L N mc ms k18 a1 a2 i3 M kc ks) else (
    none)
set_option maxHeartbeats 4000000 in
set_option maxRecDepth 100000 in
theorem t_L_law_J415 {X : mX} {L0 : Launch} {nm : String} {res : Unit} {sc : Nat → Int32} {L : Nat} {N : Nat} {mc ms : Nat} (C : CX X RL nm code 4 (some .boolean)) (E : EXL X L0 mc ms) (HX : HXP X L sc) (k18 : Nat → Nat → Int32 → mM → Nat → Nat → Option (Unit)) (Hk18 : ∀ (a1 : Nat) (a2 : Nat) (i3 : Int32) (M : mM) (kc ks : Nat) (hk : kc ≤ mc ∧ ks ≤ ms), k18 a1 a2 i3 M kc ks = some res → EV X 4 18 [(0, .ref 9), (1, .ref a1), (2, .ref a2), (3, .int i3)] [] kc ks M) (a1 : Nat) (a2 : Nat) (i3 : Int32) (M : mM) (kc ks : Nat) (hk : kc ≤ mc ∧ ks ≤ ms) (hf : m_L_law_J415 sc L N mc ms k18 a1 a2 i3 M kc ks = some res) : EV X 4 415 [(0, .ref 9), (1, .ref a1), (2, .ref a2), (3, .int i3)] [] kc ks M := by
  unfold m_L_law_J415 at hf
  refine ev_aload_n C dL_law_415 rfl (q := 1) rfl ?_
  refine ev_aload_n C dL_law_416 rfl (q := 0) rfl ?_
  refine ev_iload_n C dL_law_417 rfl (q := 3) rfl ?_
  refine ev_iconst (v := 1) C dL_law_418 (by decide) ?_
  refine ev_iadd C dL_law_419 ?_
  obtain ⟨x1, e2, hf⟩ := obnd hf
  refine ev_sld HX C dL_law_420 e2 ?_
  refine ev_aload_n C dL_law_421 rfl (q := 0) rfl ?_
  refine ev_iload_n C dL_law_422 rfl (q := 3) rfl ?_
  refine ev_iconst (v := 2) C dL_law_423 (by decide) ?_
  refine ev_iadd C dL_law_424 ?_
  obtain ⟨x3, e4, hf⟩ := obnd hf
  refine ev_sld HX C dL_law_425 e4 ?_
  obtain ⟨_, e5, hf⟩ := obnd hf
  obtain ⟨fs6, e5⟩ := oO_eq e5
  obtain ⟨x7, e8, hf⟩ := obnd hf
  refine ev_callV0 (As := [.int x1, .int x3]) (st := []) C rfl e5 (t_X11_net e8) rfl hd_X11_net rfl kw_494 kw_495 kw_70 kw_496 kw_497 (mRoomL E (Nat.le_of_ble_eq_true rfl) (Nat.le_of_ble_eq_true rfl) hk.1 hk.2) (Nat.le_of_ble_eq_true rfl) dL_law_426 ?_
  refine ev_aload_n C dL_law_429 rfl (q := 2) rfl ?_
  refine ev_aload_n C dL_law_430 rfl (q := 0) rfl ?_
  refine ev_iload_n C dL_law_431 rfl (q := 3) rfl ?_
  refine ev_iconst (v := 1) C dL_law_432 (by decide) ?_
  refine ev_iadd C dL_law_433 ?_
  obtain ⟨x9, e10, hf⟩ := obnd hf
  refine ev_sld HX C dL_law_434 e10 ?_
  refine ev_aload_n C dL_law_435 rfl (q := 0) rfl ?_
  refine ev_iload_n C dL_law_436 rfl (q := 3) rfl ?_
  refine ev_iconst (v := 2) C dL_law_437 (by decide) ?_
  refine ev_iadd C dL_law_438 ?_
  obtain ⟨x11, e12, hf⟩ := obnd hf
  refine ev_sld HX C dL_law_439 e12 ?_
  obtain ⟨_, e13, hf⟩ := obnd hf
  obtain ⟨fs14, e13⟩ := oO_eq e13
  obtain ⟨x15, e16, hf⟩ := obnd hf
  refine ev_callV0 (As := [.int x9, .int x11]) (st := [.long x7]) C rfl e13 (t_X12_net e16) rfl hd_X12_net rfl kw_1309 kw_1310 kw_87 kw_1311 kw_1312 (mRoomL E (Nat.le_of_ble_eq_true rfl) (Nat.le_of_ble_eq_true rfl) hk.1 hk.2) (Nat.le_of_ble_eq_true rfl) dL_law_440 ?_
  refine ev_lcmp C dL_law_443 ?_
  refine ev_if_eq (tgt := 1748) C dL_law_444 (by decide) (fun hc => ?_) (fun hc => ?_)
  · have hf := oit hf hc
    exact t_L_law_J1748 C E HX k18 Hk18 a1 a2 i3 M kc ks hk hf
  · have hf := oie hf hc
    refine ev_iconst (v := 0) C dL_law_447 (by decide) ?_
    cases hf
def m_L_law_J449 (sc : Nat → Int32) (L : Nat) (N : Nat) (mc ms : Nat) (k18 : Nat → Nat → Int32 → mM → Nat → Nat → Option (Unit)) (a1 : Nat) (a2 : Nat) (i3 : Int32) (M : mM) (kc ks : Nat) : Option (Unit) :=
  (sld sc L (i3 + 1)).bind fun x1 =>
  (sld sc L (i3 + 2)).bind fun x3 =>
  (oO M a1 11).bind fun _ =>
  (m_X11_netCut N a1 x1 x3 M).bind fun x7 =>
  (sld sc L (i3 + 1)).bind fun x9 =>
  (sld sc L (i3 + 2)).bind fun x11 =>
  (oO M a2 12).bind fun _ =>
  (m_X12_netCut N a2 x9 x11 M).bind fun x15 =>
  if x7 = x15 then (
    m_L_law_J1748 sc L N mc ms k18 a1 a2 i3 M kc ks) else (
    none)
set_option maxHeartbeats 4000000 in
set_option maxRecDepth 100000 in
theorem t_L_law_J449 {X : mX} {L0 : Launch} {nm : String} {res : Unit} {sc : Nat → Int32} {L : Nat} {N : Nat} {mc ms : Nat} (C : CX X RL nm code 4 (some .boolean)) (E : EXL X L0 mc ms) (HX : HXP X L sc) (k18 : Nat → Nat → Int32 → mM → Nat → Nat → Option (Unit)) (Hk18 : ∀ (a1 : Nat) (a2 : Nat) (i3 : Int32) (M : mM) (kc ks : Nat) (hk : kc ≤ mc ∧ ks ≤ ms), k18 a1 a2 i3 M kc ks = some res → EV X 4 18 [(0, .ref 9), (1, .ref a1), (2, .ref a2), (3, .int i3)] [] kc ks M) (a1 : Nat) (a2 : Nat) (i3 : Int32) (M : mM) (kc ks : Nat) (hk : kc ≤ mc ∧ ks ≤ ms) (hf : m_L_law_J449 sc L N mc ms k18 a1 a2 i3 M kc ks = some res) : EV X 4 449 [(0, .ref 9), (1, .ref a1), (2, .ref a2), (3, .int i3)] [] kc ks M := by
  unfold m_L_law_J449 at hf
  refine ev_aload_n C dL_law_449 rfl (q := 1) rfl ?_
  refine ev_aload_n C dL_law_450 rfl (q := 0) rfl ?_
  refine ev_iload_n C dL_law_451 rfl (q := 3) rfl ?_
  refine ev_iconst (v := 1) C dL_law_452 (by decide) ?_
  refine ev_iadd C dL_law_453 ?_
  obtain ⟨x1, e2, hf⟩ := obnd hf
  refine ev_sld HX C dL_law_454 e2 ?_
  refine ev_aload_n C dL_law_455 rfl (q := 0) rfl ?_
  refine ev_iload_n C dL_law_456 rfl (q := 3) rfl ?_
  refine ev_iconst (v := 2) C dL_law_457 (by decide) ?_
  refine ev_iadd C dL_law_458 ?_
  obtain ⟨x3, e4, hf⟩ := obnd hf
  refine ev_sld HX C dL_law_459 e4 ?_
  obtain ⟨_, e5, hf⟩ := obnd hf
  obtain ⟨fs6, e5⟩ := oO_eq e5
  obtain ⟨x7, e8, hf⟩ := obnd hf
  refine ev_callV0 (As := [.int x1, .int x3]) (st := []) C rfl e5 (t_X11_netCut e8) rfl hd_X11_netCut rfl kw_503 kw_504 kw_70 kw_505 kw_506 (mRoomL E (Nat.le_of_ble_eq_true rfl) (Nat.le_of_ble_eq_true rfl) hk.1 hk.2) (Nat.le_of_ble_eq_true rfl) dL_law_460 ?_
  refine ev_aload_n C dL_law_463 rfl (q := 2) rfl ?_
  refine ev_aload_n C dL_law_464 rfl (q := 0) rfl ?_
  refine ev_iload_n C dL_law_465 rfl (q := 3) rfl ?_
  refine ev_iconst (v := 1) C dL_law_466 (by decide) ?_
  refine ev_iadd C dL_law_467 ?_
  obtain ⟨x9, e10, hf⟩ := obnd hf
  refine ev_sld HX C dL_law_468 e10 ?_
  refine ev_aload_n C dL_law_469 rfl (q := 0) rfl ?_
  refine ev_iload_n C dL_law_470 rfl (q := 3) rfl ?_
  refine ev_iconst (v := 2) C dL_law_471 (by decide) ?_
  refine ev_iadd C dL_law_472 ?_
  obtain ⟨x11, e12, hf⟩ := obnd hf
  refine ev_sld HX C dL_law_473 e12 ?_
  obtain ⟨_, e13, hf⟩ := obnd hf
  obtain ⟨fs14, e13⟩ := oO_eq e13
  obtain ⟨x15, e16, hf⟩ := obnd hf
  refine ev_callV0 (As := [.int x9, .int x11]) (st := [.int x7]) C rfl e13 (t_X12_netCut e16) rfl hd_X12_netCut rfl kw_1322 kw_1323 kw_87 kw_1324 kw_1325 (mRoomL E (Nat.le_of_ble_eq_true rfl) (Nat.le_of_ble_eq_true rfl) hk.1 hk.2) (Nat.le_of_ble_eq_true rfl) dL_law_474 ?_
  refine ev_icmp_eq (tgt := 1748) C dL_law_477 (by decide) (fun hc => ?_) (fun hc => ?_)
  · have hf := oit hf hc
    exact t_L_law_J1748 C E HX k18 Hk18 a1 a2 i3 M kc ks hk hf
  · have hf := oie hf hc
    refine ev_iconst (v := 0) C dL_law_480 (by decide) ?_
    cases hf
def m_L_law_J482 (sc : Nat → Int32) (L : Nat) (N : Nat) (mc ms : Nat) (k18 : Nat → Nat → Int32 → mM → Nat → Nat → Option (Unit)) (a1 : Nat) (a2 : Nat) (i3 : Int32) (M : mM) (kc ks : Nat) : Option (Unit) :=
  (sld sc L (i3 + 1)).bind fun x1 =>
  (sld sc L (i3 + 2)).bind fun x3 =>
  (oO M a1 11).bind fun _ =>
  (m_X11_worth N a1 x1 x3 M).bind fun x7 =>
  (sld sc L (i3 + 1)).bind fun x9 =>
  (sld sc L (i3 + 2)).bind fun x11 =>
  (oO x7.2 a2 12).bind fun _ =>
  (m_X12_worth N a2 x9 x11 x7.2).bind fun x15 =>
  if (lg_cmp x7.1 x15.1) = 0 then (
    m_L_law_J1748 sc L N mc ms k18 a1 a2 i3 x15.2 kc ks) else (
    none)
set_option maxHeartbeats 4000000 in
set_option maxRecDepth 100000 in
theorem t_L_law_J482 {X : mX} {L0 : Launch} {nm : String} {res : Unit} {sc : Nat → Int32} {L : Nat} {N : Nat} {mc ms : Nat} (C : CX X RL nm code 4 (some .boolean)) (E : EXL X L0 mc ms) (HX : HXP X L sc) (k18 : Nat → Nat → Int32 → mM → Nat → Nat → Option (Unit)) (Hk18 : ∀ (a1 : Nat) (a2 : Nat) (i3 : Int32) (M : mM) (kc ks : Nat) (hk : kc ≤ mc ∧ ks ≤ ms), k18 a1 a2 i3 M kc ks = some res → EV X 4 18 [(0, .ref 9), (1, .ref a1), (2, .ref a2), (3, .int i3)] [] kc ks M) (a1 : Nat) (a2 : Nat) (i3 : Int32) (M : mM) (kc ks : Nat) (hk : kc ≤ mc ∧ ks ≤ ms) (hf : m_L_law_J482 sc L N mc ms k18 a1 a2 i3 M kc ks = some res) : EV X 4 482 [(0, .ref 9), (1, .ref a1), (2, .ref a2), (3, .int i3)] [] kc ks M := by
  unfold m_L_law_J482 at hf
  refine ev_aload_n C dL_law_482 rfl (q := 1) rfl ?_
  refine ev_aload_n C dL_law_483 rfl (q := 0) rfl ?_
  refine ev_iload_n C dL_law_484 rfl (q := 3) rfl ?_
  refine ev_iconst (v := 1) C dL_law_485 (by decide) ?_
  refine ev_iadd C dL_law_486 ?_
  obtain ⟨x1, e2, hf⟩ := obnd hf
  refine ev_sld HX C dL_law_487 e2 ?_
  refine ev_aload_n C dL_law_488 rfl (q := 0) rfl ?_
  refine ev_iload_n C dL_law_489 rfl (q := 3) rfl ?_
  refine ev_iconst (v := 2) C dL_law_490 (by decide) ?_
  refine ev_iadd C dL_law_491 ?_
  obtain ⟨x3, e4, hf⟩ := obnd hf
  refine ev_sld HX C dL_law_492 e4 ?_
  obtain ⟨_, e5, hf⟩ := obnd hf
  obtain ⟨fs6, e5⟩ := oO_eq e5
  obtain ⟨x7, e8, hf⟩ := obnd hf
  refine ev_callV0 (As := [.int x1, .int x3]) (st := []) C rfl e5 (t_X11_worth e8) rfl hd_X11_worth rfl kw_507 kw_508 kw_70 kw_509 kw_510 (mRoomL E (Nat.le_of_ble_eq_true rfl) (Nat.le_of_ble_eq_true rfl) hk.1 hk.2) (Nat.le_of_ble_eq_true rfl) dL_law_493 ?_
  refine ev_aload_n C dL_law_496 rfl (q := 2) rfl ?_
  refine ev_aload_n C dL_law_497 rfl (q := 0) rfl ?_
  refine ev_iload_n C dL_law_498 rfl (q := 3) rfl ?_
  refine ev_iconst (v := 1) C dL_law_499 (by decide) ?_
  refine ev_iadd C dL_law_500 ?_
  obtain ⟨x9, e10, hf⟩ := obnd hf
  refine ev_sld HX C dL_law_501 e10 ?_
  refine ev_aload_n C dL_law_502 rfl (q := 0) rfl ?_
  refine ev_iload_n C dL_law_503 rfl (q := 3) rfl ?_
  refine ev_iconst (v := 2) C dL_law_504 (by decide) ?_
  refine ev_iadd C dL_law_505 ?_
  obtain ⟨x11, e12, hf⟩ := obnd hf
  refine ev_sld HX C dL_law_506 e12 ?_
  obtain ⟨_, e13, hf⟩ := obnd hf
  obtain ⟨fs14, e13⟩ := oO_eq e13
  obtain ⟨x15, e16, hf⟩ := obnd hf
  refine ev_callV0 (As := [.int x9, .int x11]) (st := [.long x7.1]) C rfl e13 (t_X12_worth e16) rfl hd_X12_worth rfl kw_1326 kw_1327 kw_87 kw_1328 kw_1329 (mRoomL E (Nat.le_of_ble_eq_true rfl) (Nat.le_of_ble_eq_true rfl) hk.1 hk.2) (Nat.le_of_ble_eq_true rfl) dL_law_507 ?_
  refine ev_lcmp C dL_law_510 ?_
  refine ev_if_eq (tgt := 1748) C dL_law_511 (by decide) (fun hc => ?_) (fun hc => ?_)
  · have hf := oit hf hc
    exact t_L_law_J1748 C E HX k18 Hk18 a1 a2 i3 x15.2 kc ks hk hf
  · have hf := oie hf hc
    refine ev_iconst (v := 0) C dL_law_514 (by decide) ?_
    cases hf
def m_L_law_J516 (sc : Nat → Int32) (L : Nat) (N : Nat) (mc ms : Nat) (k18 : Nat → Nat → Int32 → mM → Nat → Nat → Option (Unit)) (a1 : Nat) (a2 : Nat) (i3 : Int32) (M : mM) (kc ks : Nat) : Option (Unit) :=
  (sld sc L (i3 + 1)).bind fun x1 =>
  (sld sc L (i3 + 2)).bind fun x3 =>
  (oO M a1 11).bind fun _ =>
  (m_X11_worthShort N a1 x1 x3 M).bind fun x7 =>
  (sld sc L (i3 + 1)).bind fun x9 =>
  (sld sc L (i3 + 2)).bind fun x11 =>
  (oO x7.2 a2 12).bind fun _ =>
  (m_X12_worthShort N a2 x9 x11 x7.2).bind fun x15 =>
  if x7.1 = x15.1 then (
    m_L_law_J1748 sc L N mc ms k18 a1 a2 i3 x15.2 kc ks) else (
    none)
set_option maxHeartbeats 4000000 in
set_option maxRecDepth 100000 in
theorem t_L_law_J516 {X : mX} {L0 : Launch} {nm : String} {res : Unit} {sc : Nat → Int32} {L : Nat} {N : Nat} {mc ms : Nat} (C : CX X RL nm code 4 (some .boolean)) (E : EXL X L0 mc ms) (HX : HXP X L sc) (k18 : Nat → Nat → Int32 → mM → Nat → Nat → Option (Unit)) (Hk18 : ∀ (a1 : Nat) (a2 : Nat) (i3 : Int32) (M : mM) (kc ks : Nat) (hk : kc ≤ mc ∧ ks ≤ ms), k18 a1 a2 i3 M kc ks = some res → EV X 4 18 [(0, .ref 9), (1, .ref a1), (2, .ref a2), (3, .int i3)] [] kc ks M) (a1 : Nat) (a2 : Nat) (i3 : Int32) (M : mM) (kc ks : Nat) (hk : kc ≤ mc ∧ ks ≤ ms) (hf : m_L_law_J516 sc L N mc ms k18 a1 a2 i3 M kc ks = some res) : EV X 4 516 [(0, .ref 9), (1, .ref a1), (2, .ref a2), (3, .int i3)] [] kc ks M := by
  unfold m_L_law_J516 at hf
  refine ev_aload_n C dL_law_516 rfl (q := 1) rfl ?_
  refine ev_aload_n C dL_law_517 rfl (q := 0) rfl ?_
  refine ev_iload_n C dL_law_518 rfl (q := 3) rfl ?_
  refine ev_iconst (v := 1) C dL_law_519 (by decide) ?_
  refine ev_iadd C dL_law_520 ?_
  obtain ⟨x1, e2, hf⟩ := obnd hf
  refine ev_sld HX C dL_law_521 e2 ?_
  refine ev_aload_n C dL_law_522 rfl (q := 0) rfl ?_
  refine ev_iload_n C dL_law_523 rfl (q := 3) rfl ?_
  refine ev_iconst (v := 2) C dL_law_524 (by decide) ?_
  refine ev_iadd C dL_law_525 ?_
  obtain ⟨x3, e4, hf⟩ := obnd hf
  refine ev_sld HX C dL_law_526 e4 ?_
  obtain ⟨_, e5, hf⟩ := obnd hf
  obtain ⟨fs6, e5⟩ := oO_eq e5
  obtain ⟨x7, e8, hf⟩ := obnd hf
  refine ev_callV0 (As := [.int x1, .int x3]) (st := []) C rfl e5 (t_X11_worthShort e8) rfl hd_X11_worthShort rfl kw_532 kw_533 kw_70 kw_534 kw_535 (mRoomL E (Nat.le_of_ble_eq_true rfl) (Nat.le_of_ble_eq_true rfl) hk.1 hk.2) (Nat.le_of_ble_eq_true rfl) dL_law_527 ?_
  refine ev_aload_n C dL_law_530 rfl (q := 2) rfl ?_
  refine ev_aload_n C dL_law_531 rfl (q := 0) rfl ?_
  refine ev_iload_n C dL_law_532 rfl (q := 3) rfl ?_
  refine ev_iconst (v := 1) C dL_law_533 (by decide) ?_
  refine ev_iadd C dL_law_534 ?_
  obtain ⟨x9, e10, hf⟩ := obnd hf
  refine ev_sld HX C dL_law_535 e10 ?_
  refine ev_aload_n C dL_law_536 rfl (q := 0) rfl ?_
  refine ev_iload_n C dL_law_537 rfl (q := 3) rfl ?_
  refine ev_iconst (v := 2) C dL_law_538 (by decide) ?_
  refine ev_iadd C dL_law_539 ?_
  obtain ⟨x11, e12, hf⟩ := obnd hf
  refine ev_sld HX C dL_law_540 e12 ?_
  obtain ⟨_, e13, hf⟩ := obnd hf
  obtain ⟨fs14, e13⟩ := oO_eq e13
  obtain ⟨x15, e16, hf⟩ := obnd hf
  refine ev_callV0 (As := [.int x9, .int x11]) (st := [.int x7.1]) C rfl e13 (t_X12_worthShort e16) rfl hd_X12_worthShort rfl kw_1350 kw_1351 kw_87 kw_1352 kw_1353 (mRoomL E (Nat.le_of_ble_eq_true rfl) (Nat.le_of_ble_eq_true rfl) hk.1 hk.2) (Nat.le_of_ble_eq_true rfl) dL_law_541 ?_
  refine ev_icmp_eq (tgt := 1748) C dL_law_544 (by decide) (fun hc => ?_) (fun hc => ?_)
  · have hf := oit hf hc
    exact t_L_law_J1748 C E HX k18 Hk18 a1 a2 i3 x15.2 kc ks hk hf
  · have hf := oie hf hc
    refine ev_iconst (v := 0) C dL_law_547 (by decide) ?_
    cases hf
def m_L_law_J549 (sc : Nat → Int32) (L : Nat) (N : Nat) (mc ms : Nat) (k18 : Nat → Nat → Int32 → mM → Nat → Nat → Option (Unit)) (a1 : Nat) (a2 : Nat) (i3 : Int32) (M : mM) (kc ks : Nat) : Option (Unit) :=
  (sld sc L (i3 + 1)).bind fun x1 =>
  (sld sc L (i3 + 2)).bind fun x3 =>
  (oO M a1 11).bind fun _ =>
  (m_X11_gross N a1 x1 x3 M).bind fun x7 =>
  (sld sc L (i3 + 1)).bind fun x9 =>
  (sld sc L (i3 + 2)).bind fun x11 =>
  (oO x7.2 a2 12).bind fun _ =>
  (m_X12_gross N a2 x9 x11 x7.2).bind fun x15 =>
  if (lg_cmp x7.1 x15.1) = 0 then (
    m_L_law_J1748 sc L N mc ms k18 a1 a2 i3 x15.2 kc ks) else (
    none)
set_option maxHeartbeats 4000000 in
set_option maxRecDepth 100000 in
theorem t_L_law_J549 {X : mX} {L0 : Launch} {nm : String} {res : Unit} {sc : Nat → Int32} {L : Nat} {N : Nat} {mc ms : Nat} (C : CX X RL nm code 4 (some .boolean)) (E : EXL X L0 mc ms) (HX : HXP X L sc) (k18 : Nat → Nat → Int32 → mM → Nat → Nat → Option (Unit)) (Hk18 : ∀ (a1 : Nat) (a2 : Nat) (i3 : Int32) (M : mM) (kc ks : Nat) (hk : kc ≤ mc ∧ ks ≤ ms), k18 a1 a2 i3 M kc ks = some res → EV X 4 18 [(0, .ref 9), (1, .ref a1), (2, .ref a2), (3, .int i3)] [] kc ks M) (a1 : Nat) (a2 : Nat) (i3 : Int32) (M : mM) (kc ks : Nat) (hk : kc ≤ mc ∧ ks ≤ ms) (hf : m_L_law_J549 sc L N mc ms k18 a1 a2 i3 M kc ks = some res) : EV X 4 549 [(0, .ref 9), (1, .ref a1), (2, .ref a2), (3, .int i3)] [] kc ks M := by
  unfold m_L_law_J549 at hf
  refine ev_aload_n C dL_law_549 rfl (q := 1) rfl ?_
  refine ev_aload_n C dL_law_550 rfl (q := 0) rfl ?_
  refine ev_iload_n C dL_law_551 rfl (q := 3) rfl ?_
  refine ev_iconst (v := 1) C dL_law_552 (by decide) ?_
  refine ev_iadd C dL_law_553 ?_
  obtain ⟨x1, e2, hf⟩ := obnd hf
  refine ev_sld HX C dL_law_554 e2 ?_
  refine ev_aload_n C dL_law_555 rfl (q := 0) rfl ?_
  refine ev_iload_n C dL_law_556 rfl (q := 3) rfl ?_
  refine ev_iconst (v := 2) C dL_law_557 (by decide) ?_
  refine ev_iadd C dL_law_558 ?_
  obtain ⟨x3, e4, hf⟩ := obnd hf
  refine ev_sld HX C dL_law_559 e4 ?_
  obtain ⟨_, e5, hf⟩ := obnd hf
  obtain ⟨fs6, e5⟩ := oO_eq e5
  obtain ⟨x7, e8, hf⟩ := obnd hf
  refine ev_callV0 (As := [.int x1, .int x3]) (st := []) C rfl e5 (t_X11_gross e8) rfl hd_X11_gross rfl kw_543 kw_544 kw_70 kw_545 kw_546 (mRoomL E (Nat.le_of_ble_eq_true rfl) (Nat.le_of_ble_eq_true rfl) hk.1 hk.2) (Nat.le_of_ble_eq_true rfl) dL_law_560 ?_
  refine ev_aload_n C dL_law_563 rfl (q := 2) rfl ?_
  refine ev_aload_n C dL_law_564 rfl (q := 0) rfl ?_
  refine ev_iload_n C dL_law_565 rfl (q := 3) rfl ?_
  refine ev_iconst (v := 1) C dL_law_566 (by decide) ?_
  refine ev_iadd C dL_law_567 ?_
  obtain ⟨x9, e10, hf⟩ := obnd hf
  refine ev_sld HX C dL_law_568 e10 ?_
  refine ev_aload_n C dL_law_569 rfl (q := 0) rfl ?_
  refine ev_iload_n C dL_law_570 rfl (q := 3) rfl ?_
  refine ev_iconst (v := 2) C dL_law_571 (by decide) ?_
  refine ev_iadd C dL_law_572 ?_
  obtain ⟨x11, e12, hf⟩ := obnd hf
  refine ev_sld HX C dL_law_573 e12 ?_
  obtain ⟨_, e13, hf⟩ := obnd hf
  obtain ⟨fs14, e13⟩ := oO_eq e13
  obtain ⟨x15, e16, hf⟩ := obnd hf
  refine ev_callV0 (As := [.int x9, .int x11]) (st := [.long x7.1]) C rfl e13 (t_X12_gross e16) rfl hd_X12_gross rfl kw_1364 kw_1365 kw_87 kw_1366 kw_1367 (mRoomL E (Nat.le_of_ble_eq_true rfl) (Nat.le_of_ble_eq_true rfl) hk.1 hk.2) (Nat.le_of_ble_eq_true rfl) dL_law_574 ?_
  refine ev_lcmp C dL_law_577 ?_
  refine ev_if_eq (tgt := 1748) C dL_law_578 (by decide) (fun hc => ?_) (fun hc => ?_)
  · have hf := oit hf hc
    exact t_L_law_J1748 C E HX k18 Hk18 a1 a2 i3 x15.2 kc ks hk hf
  · have hf := oie hf hc
    refine ev_iconst (v := 0) C dL_law_581 (by decide) ?_
    cases hf
def m_L_law_J583 (sc : Nat → Int32) (L : Nat) (N : Nat) (mc ms : Nat) (k18 : Nat → Nat → Int32 → mM → Nat → Nat → Option (Unit)) (a1 : Nat) (a2 : Nat) (i3 : Int32) (M : mM) (kc ks : Nat) : Option (Unit) :=
  (sld sc L (i3 + 1)).bind fun x1 =>
  (sld sc L (i3 + 2)).bind fun x3 =>
  (sld sc L (i3 + 3)).bind fun x5 =>
  (oO M a1 11).bind fun _ =>
  (m_X11_taken N a1 x1 x3 x5 M).bind fun x9 =>
  (sld sc L (i3 + 1)).bind fun x11 =>
  (sld sc L (i3 + 2)).bind fun x13 =>
  (sld sc L (i3 + 3)).bind fun x15 =>
  (oO x9.2 a2 12).bind fun _ =>
  (m_X12_taken N a2 x11 x13 x15 x9.2).bind fun x19 =>
  if x9.1 = x19.1 then (
    m_L_law_J1748 sc L N mc ms k18 a1 a2 i3 x19.2 kc ks) else (
    none)
set_option maxHeartbeats 4000000 in
set_option maxRecDepth 100000 in
theorem t_L_law_J583 {X : mX} {L0 : Launch} {nm : String} {res : Unit} {sc : Nat → Int32} {L : Nat} {N : Nat} {mc ms : Nat} (C : CX X RL nm code 4 (some .boolean)) (E : EXL X L0 mc ms) (HX : HXP X L sc) (k18 : Nat → Nat → Int32 → mM → Nat → Nat → Option (Unit)) (Hk18 : ∀ (a1 : Nat) (a2 : Nat) (i3 : Int32) (M : mM) (kc ks : Nat) (hk : kc ≤ mc ∧ ks ≤ ms), k18 a1 a2 i3 M kc ks = some res → EV X 4 18 [(0, .ref 9), (1, .ref a1), (2, .ref a2), (3, .int i3)] [] kc ks M) (a1 : Nat) (a2 : Nat) (i3 : Int32) (M : mM) (kc ks : Nat) (hk : kc ≤ mc ∧ ks ≤ ms) (hf : m_L_law_J583 sc L N mc ms k18 a1 a2 i3 M kc ks = some res) : EV X 4 583 [(0, .ref 9), (1, .ref a1), (2, .ref a2), (3, .int i3)] [] kc ks M := by
  unfold m_L_law_J583 at hf
  refine ev_aload_n C dL_law_583 rfl (q := 1) rfl ?_
  refine ev_aload_n C dL_law_584 rfl (q := 0) rfl ?_
  refine ev_iload_n C dL_law_585 rfl (q := 3) rfl ?_
  refine ev_iconst (v := 1) C dL_law_586 (by decide) ?_
  refine ev_iadd C dL_law_587 ?_
  obtain ⟨x1, e2, hf⟩ := obnd hf
  refine ev_sld HX C dL_law_588 e2 ?_
  refine ev_aload_n C dL_law_589 rfl (q := 0) rfl ?_
  refine ev_iload_n C dL_law_590 rfl (q := 3) rfl ?_
  refine ev_iconst (v := 2) C dL_law_591 (by decide) ?_
  refine ev_iadd C dL_law_592 ?_
  obtain ⟨x3, e4, hf⟩ := obnd hf
  refine ev_sld HX C dL_law_593 e4 ?_
  refine ev_aload_n C dL_law_594 rfl (q := 0) rfl ?_
  refine ev_iload_n C dL_law_595 rfl (q := 3) rfl ?_
  refine ev_iconst (v := 3) C dL_law_596 (by decide) ?_
  refine ev_iadd C dL_law_597 ?_
  obtain ⟨x5, e6, hf⟩ := obnd hf
  refine ev_sld HX C dL_law_598 e6 ?_
  obtain ⟨_, e7, hf⟩ := obnd hf
  obtain ⟨fs8, e7⟩ := oO_eq e7
  obtain ⟨x9, e10, hf⟩ := obnd hf
  refine ev_callV0 (As := [.int x1, .int x3, .int x5]) (st := []) C rfl e7 (t_X11_taken e10) rfl hd_X11_taken rfl kw_568 kw_569 kw_70 kw_570 kw_571 (mRoomL E (Nat.le_of_ble_eq_true rfl) (Nat.le_of_ble_eq_true rfl) hk.1 hk.2) (Nat.le_of_ble_eq_true rfl) dL_law_599 ?_
  refine ev_aload_n C dL_law_602 rfl (q := 2) rfl ?_
  refine ev_aload_n C dL_law_603 rfl (q := 0) rfl ?_
  refine ev_iload_n C dL_law_604 rfl (q := 3) rfl ?_
  refine ev_iconst (v := 1) C dL_law_605 (by decide) ?_
  refine ev_iadd C dL_law_606 ?_
  obtain ⟨x11, e12, hf⟩ := obnd hf
  refine ev_sld HX C dL_law_607 e12 ?_
  refine ev_aload_n C dL_law_608 rfl (q := 0) rfl ?_
  refine ev_iload_n C dL_law_609 rfl (q := 3) rfl ?_
  refine ev_iconst (v := 2) C dL_law_610 (by decide) ?_
  refine ev_iadd C dL_law_611 ?_
  obtain ⟨x13, e14, hf⟩ := obnd hf
  refine ev_sld HX C dL_law_612 e14 ?_
  refine ev_aload_n C dL_law_613 rfl (q := 0) rfl ?_
  refine ev_iload_n C dL_law_614 rfl (q := 3) rfl ?_
  refine ev_iconst (v := 3) C dL_law_615 (by decide) ?_
  refine ev_iadd C dL_law_616 ?_
  obtain ⟨x15, e16, hf⟩ := obnd hf
  refine ev_sld HX C dL_law_617 e16 ?_
  obtain ⟨_, e17, hf⟩ := obnd hf
  obtain ⟨fs18, e17⟩ := oO_eq e17
  obtain ⟨x19, e20, hf⟩ := obnd hf
  refine ev_callV0 (As := [.int x11, .int x13, .int x15]) (st := [.int x9.1]) C rfl e17 (t_X12_taken e20) rfl hd_X12_taken rfl kw_1386 kw_1387 kw_87 kw_1388 kw_1389 (mRoomL E (Nat.le_of_ble_eq_true rfl) (Nat.le_of_ble_eq_true rfl) hk.1 hk.2) (Nat.le_of_ble_eq_true rfl) dL_law_618 ?_
  refine ev_icmp_eq (tgt := 1748) C dL_law_621 (by decide) (fun hc => ?_) (fun hc => ?_)
  · have hf := oit hf hc
    exact t_L_law_J1748 C E HX k18 Hk18 a1 a2 i3 x19.2 kc ks hk hf
  · have hf := oie hf hc
    refine ev_iconst (v := 0) C dL_law_624 (by decide) ?_
    cases hf
def m_L_law_J626 (sc : Nat → Int32) (L : Nat) (N : Nat) (mc ms : Nat) (k18 : Nat → Nat → Int32 → mM → Nat → Nat → Option (Unit)) (a1 : Nat) (a2 : Nat) (i3 : Int32) (M : mM) (kc ks : Nat) : Option (Unit) :=
  (sld sc L (i3 + 1)).bind fun x1 =>
  (sld sc L (i3 + 2)).bind fun x3 =>
  (oO M a1 11).bind fun _ =>
  (m_X11_kept N a1 x1 x3 M).bind fun x7 =>
  (sld sc L (i3 + 1)).bind fun x9 =>
  (sld sc L (i3 + 2)).bind fun x11 =>
  (oO x7.2 a2 12).bind fun _ =>
  (m_X12_kept N a2 x9 x11 x7.2).bind fun x15 =>
  if x7.1 = x15.1 then (
    m_L_law_J1748 sc L N mc ms k18 a1 a2 i3 x15.2 kc ks) else (
    none)
set_option maxHeartbeats 4000000 in
set_option maxRecDepth 100000 in
theorem t_L_law_J626 {X : mX} {L0 : Launch} {nm : String} {res : Unit} {sc : Nat → Int32} {L : Nat} {N : Nat} {mc ms : Nat} (C : CX X RL nm code 4 (some .boolean)) (E : EXL X L0 mc ms) (HX : HXP X L sc) (k18 : Nat → Nat → Int32 → mM → Nat → Nat → Option (Unit)) (Hk18 : ∀ (a1 : Nat) (a2 : Nat) (i3 : Int32) (M : mM) (kc ks : Nat) (hk : kc ≤ mc ∧ ks ≤ ms), k18 a1 a2 i3 M kc ks = some res → EV X 4 18 [(0, .ref 9), (1, .ref a1), (2, .ref a2), (3, .int i3)] [] kc ks M) (a1 : Nat) (a2 : Nat) (i3 : Int32) (M : mM) (kc ks : Nat) (hk : kc ≤ mc ∧ ks ≤ ms) (hf : m_L_law_J626 sc L N mc ms k18 a1 a2 i3 M kc ks = some res) : EV X 4 626 [(0, .ref 9), (1, .ref a1), (2, .ref a2), (3, .int i3)] [] kc ks M := by
  unfold m_L_law_J626 at hf
  refine ev_aload_n C dL_law_626 rfl (q := 1) rfl ?_
  refine ev_aload_n C dL_law_627 rfl (q := 0) rfl ?_
  refine ev_iload_n C dL_law_628 rfl (q := 3) rfl ?_
  refine ev_iconst (v := 1) C dL_law_629 (by decide) ?_
  refine ev_iadd C dL_law_630 ?_
  obtain ⟨x1, e2, hf⟩ := obnd hf
  refine ev_sld HX C dL_law_631 e2 ?_
  refine ev_aload_n C dL_law_632 rfl (q := 0) rfl ?_
  refine ev_iload_n C dL_law_633 rfl (q := 3) rfl ?_
  refine ev_iconst (v := 2) C dL_law_634 (by decide) ?_
  refine ev_iadd C dL_law_635 ?_
  obtain ⟨x3, e4, hf⟩ := obnd hf
  refine ev_sld HX C dL_law_636 e4 ?_
  obtain ⟨_, e5, hf⟩ := obnd hf
  obtain ⟨fs6, e5⟩ := oO_eq e5
  obtain ⟨x7, e8, hf⟩ := obnd hf
  refine ev_callV0 (As := [.int x1, .int x3]) (st := []) C rfl e5 (t_X11_kept e8) rfl hd_X11_kept rfl kw_580 kw_581 kw_70 kw_582 kw_583 (mRoomL E (Nat.le_of_ble_eq_true rfl) (Nat.le_of_ble_eq_true rfl) hk.1 hk.2) (Nat.le_of_ble_eq_true rfl) dL_law_637 ?_
  refine ev_aload_n C dL_law_640 rfl (q := 2) rfl ?_
  refine ev_aload_n C dL_law_641 rfl (q := 0) rfl ?_
  refine ev_iload_n C dL_law_642 rfl (q := 3) rfl ?_
  refine ev_iconst (v := 1) C dL_law_643 (by decide) ?_
  refine ev_iadd C dL_law_644 ?_
  obtain ⟨x9, e10, hf⟩ := obnd hf
  refine ev_sld HX C dL_law_645 e10 ?_
  refine ev_aload_n C dL_law_646 rfl (q := 0) rfl ?_
  refine ev_iload_n C dL_law_647 rfl (q := 3) rfl ?_
  refine ev_iconst (v := 2) C dL_law_648 (by decide) ?_
  refine ev_iadd C dL_law_649 ?_
  obtain ⟨x11, e12, hf⟩ := obnd hf
  refine ev_sld HX C dL_law_650 e12 ?_
  obtain ⟨_, e13, hf⟩ := obnd hf
  obtain ⟨fs14, e13⟩ := oO_eq e13
  obtain ⟨x15, e16, hf⟩ := obnd hf
  refine ev_callV0 (As := [.int x9, .int x11]) (st := [.int x7.1]) C rfl e13 (t_X12_kept e16) rfl hd_X12_kept rfl kw_1397 kw_1398 kw_87 kw_1399 kw_1400 (mRoomL E (Nat.le_of_ble_eq_true rfl) (Nat.le_of_ble_eq_true rfl) hk.1 hk.2) (Nat.le_of_ble_eq_true rfl) dL_law_651 ?_
  refine ev_icmp_eq (tgt := 1748) C dL_law_654 (by decide) (fun hc => ?_) (fun hc => ?_)
  · have hf := oit hf hc
    exact t_L_law_J1748 C E HX k18 Hk18 a1 a2 i3 x15.2 kc ks hk hf
  · have hf := oie hf hc
    refine ev_iconst (v := 0) C dL_law_657 (by decide) ?_
    cases hf
def m_L_law_J659 (sc : Nat → Int32) (L : Nat) (N : Nat) (mc ms : Nat) (k18 : Nat → Nat → Int32 → mM → Nat → Nat → Option (Unit)) (a1 : Nat) (a2 : Nat) (i3 : Int32) (M : mM) (kc ks : Nat) : Option (Unit) :=
  (sld sc L (i3 + 1)).bind fun x1 =>
  (sld sc L (i3 + 2)).bind fun x3 =>
  (oO M a1 11).bind fun _ =>
  (m_X11_limit N a1 x1 x3 M).bind fun x7 =>
  (sld sc L (i3 + 1)).bind fun x9 =>
  (sld sc L (i3 + 2)).bind fun x11 =>
  (oO x7.2 a2 12).bind fun _ =>
  (m_X12_limit N a2 x9 x11 x7.2).bind fun x15 =>
  if x7.1 = x15.1 then (
    m_L_law_J1748 sc L N mc ms k18 a1 a2 i3 x15.2 kc ks) else (
    none)
set_option maxHeartbeats 4000000 in
set_option maxRecDepth 100000 in
theorem t_L_law_J659 {X : mX} {L0 : Launch} {nm : String} {res : Unit} {sc : Nat → Int32} {L : Nat} {N : Nat} {mc ms : Nat} (C : CX X RL nm code 4 (some .boolean)) (E : EXL X L0 mc ms) (HX : HXP X L sc) (k18 : Nat → Nat → Int32 → mM → Nat → Nat → Option (Unit)) (Hk18 : ∀ (a1 : Nat) (a2 : Nat) (i3 : Int32) (M : mM) (kc ks : Nat) (hk : kc ≤ mc ∧ ks ≤ ms), k18 a1 a2 i3 M kc ks = some res → EV X 4 18 [(0, .ref 9), (1, .ref a1), (2, .ref a2), (3, .int i3)] [] kc ks M) (a1 : Nat) (a2 : Nat) (i3 : Int32) (M : mM) (kc ks : Nat) (hk : kc ≤ mc ∧ ks ≤ ms) (hf : m_L_law_J659 sc L N mc ms k18 a1 a2 i3 M kc ks = some res) : EV X 4 659 [(0, .ref 9), (1, .ref a1), (2, .ref a2), (3, .int i3)] [] kc ks M := by
  unfold m_L_law_J659 at hf
  refine ev_aload_n C dL_law_659 rfl (q := 1) rfl ?_
  refine ev_aload_n C dL_law_660 rfl (q := 0) rfl ?_
  refine ev_iload_n C dL_law_661 rfl (q := 3) rfl ?_
  refine ev_iconst (v := 1) C dL_law_662 (by decide) ?_
  refine ev_iadd C dL_law_663 ?_
  obtain ⟨x1, e2, hf⟩ := obnd hf
  refine ev_sld HX C dL_law_664 e2 ?_
  refine ev_aload_n C dL_law_665 rfl (q := 0) rfl ?_
  refine ev_iload_n C dL_law_666 rfl (q := 3) rfl ?_
  refine ev_iconst (v := 2) C dL_law_667 (by decide) ?_
  refine ev_iadd C dL_law_668 ?_
  obtain ⟨x3, e4, hf⟩ := obnd hf
  refine ev_sld HX C dL_law_669 e4 ?_
  obtain ⟨_, e5, hf⟩ := obnd hf
  obtain ⟨fs6, e5⟩ := oO_eq e5
  obtain ⟨x7, e8, hf⟩ := obnd hf
  refine ev_callV0 (As := [.int x1, .int x3]) (st := []) C rfl e5 (t_X11_limit e8) rfl hd_X11_limit rfl kw_589 kw_590 kw_70 kw_591 kw_592 (mRoomL E (Nat.le_of_ble_eq_true rfl) (Nat.le_of_ble_eq_true rfl) hk.1 hk.2) (Nat.le_of_ble_eq_true rfl) dL_law_670 ?_
  refine ev_aload_n C dL_law_673 rfl (q := 2) rfl ?_
  refine ev_aload_n C dL_law_674 rfl (q := 0) rfl ?_
  refine ev_iload_n C dL_law_675 rfl (q := 3) rfl ?_
  refine ev_iconst (v := 1) C dL_law_676 (by decide) ?_
  refine ev_iadd C dL_law_677 ?_
  obtain ⟨x9, e10, hf⟩ := obnd hf
  refine ev_sld HX C dL_law_678 e10 ?_
  refine ev_aload_n C dL_law_679 rfl (q := 0) rfl ?_
  refine ev_iload_n C dL_law_680 rfl (q := 3) rfl ?_
  refine ev_iconst (v := 2) C dL_law_681 (by decide) ?_
  refine ev_iadd C dL_law_682 ?_
  obtain ⟨x11, e12, hf⟩ := obnd hf
  refine ev_sld HX C dL_law_683 e12 ?_
  obtain ⟨_, e13, hf⟩ := obnd hf
  obtain ⟨fs14, e13⟩ := oO_eq e13
  obtain ⟨x15, e16, hf⟩ := obnd hf
  refine ev_callV0 (As := [.int x9, .int x11]) (st := [.int x7.1]) C rfl e13 (t_X12_limit e16) rfl hd_X12_limit rfl kw_1401 kw_1402 kw_87 kw_1403 kw_1404 (mRoomL E (Nat.le_of_ble_eq_true rfl) (Nat.le_of_ble_eq_true rfl) hk.1 hk.2) (Nat.le_of_ble_eq_true rfl) dL_law_684 ?_
  refine ev_icmp_eq (tgt := 1748) C dL_law_687 (by decide) (fun hc => ?_) (fun hc => ?_)
  · have hf := oit hf hc
    exact t_L_law_J1748 C E HX k18 Hk18 a1 a2 i3 x15.2 kc ks hk hf
  · have hf := oie hf hc
    refine ev_iconst (v := 0) C dL_law_690 (by decide) ?_
    cases hf
def m_L_law_J692 (sc : Nat → Int32) (L : Nat) (N : Nat) (mc ms : Nat) (k18 : Nat → Nat → Int32 → mM → Nat → Nat → Option (Unit)) (a1 : Nat) (a2 : Nat) (i3 : Int32) (M : mM) (kc ks : Nat) : Option (Unit) :=
  (sld sc L (i3 + 1)).bind fun x1 =>
  (sld sc L (i3 + 2)).bind fun x3 =>
  (sld sc L (i3 + 3)).bind fun x5 =>
  (oO M a1 11).bind fun _ =>
  (m_X11_chance N a1 x1 x3 x5 M).bind fun x9 =>
  (sld sc L (i3 + 1)).bind fun x11 =>
  (sld sc L (i3 + 2)).bind fun x13 =>
  (sld sc L (i3 + 3)).bind fun x15 =>
  (oO x9.2 a2 12).bind fun _ =>
  (m_X12_chance N a2 x11 x13 x15 x9.2).bind fun x19 =>
  if (lg_cmp x9.1 x19.1) = 0 then (
    m_L_law_J1748 sc L N mc ms k18 a1 a2 i3 x19.2 kc ks) else (
    none)
set_option maxHeartbeats 4000000 in
set_option maxRecDepth 100000 in
theorem t_L_law_J692 {X : mX} {L0 : Launch} {nm : String} {res : Unit} {sc : Nat → Int32} {L : Nat} {N : Nat} {mc ms : Nat} (C : CX X RL nm code 4 (some .boolean)) (E : EXL X L0 mc ms) (HX : HXP X L sc) (k18 : Nat → Nat → Int32 → mM → Nat → Nat → Option (Unit)) (Hk18 : ∀ (a1 : Nat) (a2 : Nat) (i3 : Int32) (M : mM) (kc ks : Nat) (hk : kc ≤ mc ∧ ks ≤ ms), k18 a1 a2 i3 M kc ks = some res → EV X 4 18 [(0, .ref 9), (1, .ref a1), (2, .ref a2), (3, .int i3)] [] kc ks M) (a1 : Nat) (a2 : Nat) (i3 : Int32) (M : mM) (kc ks : Nat) (hk : kc ≤ mc ∧ ks ≤ ms) (hf : m_L_law_J692 sc L N mc ms k18 a1 a2 i3 M kc ks = some res) : EV X 4 692 [(0, .ref 9), (1, .ref a1), (2, .ref a2), (3, .int i3)] [] kc ks M := by
  unfold m_L_law_J692 at hf
  refine ev_aload_n C dL_law_692 rfl (q := 1) rfl ?_
  refine ev_aload_n C dL_law_693 rfl (q := 0) rfl ?_
  refine ev_iload_n C dL_law_694 rfl (q := 3) rfl ?_
  refine ev_iconst (v := 1) C dL_law_695 (by decide) ?_
  refine ev_iadd C dL_law_696 ?_
  obtain ⟨x1, e2, hf⟩ := obnd hf
  refine ev_sld HX C dL_law_697 e2 ?_
  refine ev_aload_n C dL_law_698 rfl (q := 0) rfl ?_
  refine ev_iload_n C dL_law_699 rfl (q := 3) rfl ?_
  refine ev_iconst (v := 2) C dL_law_700 (by decide) ?_
  refine ev_iadd C dL_law_701 ?_
  obtain ⟨x3, e4, hf⟩ := obnd hf
  refine ev_sld HX C dL_law_702 e4 ?_
  refine ev_aload_n C dL_law_703 rfl (q := 0) rfl ?_
  refine ev_iload_n C dL_law_704 rfl (q := 3) rfl ?_
  refine ev_iconst (v := 3) C dL_law_705 (by decide) ?_
  refine ev_iadd C dL_law_706 ?_
  obtain ⟨x5, e6, hf⟩ := obnd hf
  refine ev_sld HX C dL_law_707 e6 ?_
  obtain ⟨_, e7, hf⟩ := obnd hf
  obtain ⟨fs8, e7⟩ := oO_eq e7
  obtain ⟨x9, e10, hf⟩ := obnd hf
  refine ev_callV0 (As := [.int x1, .int x3, .int x5]) (st := []) C rfl e7 (t_X11_chance e10) rfl hd_X11_chance rfl kw_593 kw_594 kw_70 kw_595 kw_596 (mRoomL E (Nat.le_of_ble_eq_true rfl) (Nat.le_of_ble_eq_true rfl) hk.1 hk.2) (Nat.le_of_ble_eq_true rfl) dL_law_708 ?_
  refine ev_aload_n C dL_law_711 rfl (q := 2) rfl ?_
  refine ev_aload_n C dL_law_712 rfl (q := 0) rfl ?_
  refine ev_iload_n C dL_law_713 rfl (q := 3) rfl ?_
  refine ev_iconst (v := 1) C dL_law_714 (by decide) ?_
  refine ev_iadd C dL_law_715 ?_
  obtain ⟨x11, e12, hf⟩ := obnd hf
  refine ev_sld HX C dL_law_716 e12 ?_
  refine ev_aload_n C dL_law_717 rfl (q := 0) rfl ?_
  refine ev_iload_n C dL_law_718 rfl (q := 3) rfl ?_
  refine ev_iconst (v := 2) C dL_law_719 (by decide) ?_
  refine ev_iadd C dL_law_720 ?_
  obtain ⟨x13, e14, hf⟩ := obnd hf
  refine ev_sld HX C dL_law_721 e14 ?_
  refine ev_aload_n C dL_law_722 rfl (q := 0) rfl ?_
  refine ev_iload_n C dL_law_723 rfl (q := 3) rfl ?_
  refine ev_iconst (v := 3) C dL_law_724 (by decide) ?_
  refine ev_iadd C dL_law_725 ?_
  obtain ⟨x15, e16, hf⟩ := obnd hf
  refine ev_sld HX C dL_law_726 e16 ?_
  obtain ⟨_, e17, hf⟩ := obnd hf
  obtain ⟨fs18, e17⟩ := oO_eq e17
  obtain ⟨x19, e20, hf⟩ := obnd hf
  refine ev_callV0 (As := [.int x11, .int x13, .int x15]) (st := [.long x9.1]) C rfl e17 (t_X12_chance e20) rfl hd_X12_chance rfl kw_1406 kw_1407 kw_87 kw_1408 kw_1409 (mRoomL E (Nat.le_of_ble_eq_true rfl) (Nat.le_of_ble_eq_true rfl) hk.1 hk.2) (Nat.le_of_ble_eq_true rfl) dL_law_727 ?_
  refine ev_lcmp C dL_law_730 ?_
  refine ev_if_eq (tgt := 1748) C dL_law_731 (by decide) (fun hc => ?_) (fun hc => ?_)
  · have hf := oit hf hc
    exact t_L_law_J1748 C E HX k18 Hk18 a1 a2 i3 x19.2 kc ks hk hf
  · have hf := oie hf hc
    refine ev_iconst (v := 0) C dL_law_734 (by decide) ?_
    cases hf
def m_L_law_J736 (sc : Nat → Int32) (L : Nat) (N : Nat) (mc ms : Nat) (k18 : Nat → Nat → Int32 → mM → Nat → Nat → Option (Unit)) (a1 : Nat) (a2 : Nat) (i3 : Int32) (M : mM) (kc ks : Nat) : Option (Unit) :=
  (sld sc L (i3 + 1)).bind fun x1 =>
  (sld sc L (i3 + 2)).bind fun x3 =>
  (oO M a1 11).bind fun _ =>
  (m_X11_turned N a1 x1 x3 M).bind fun x7 =>
  (sld sc L (i3 + 1)).bind fun x9 =>
  (sld sc L (i3 + 2)).bind fun x11 =>
  (oO x7.2 a2 12).bind fun _ =>
  (m_X12_turned N a2 x9 x11 x7.2).bind fun x15 =>
  if (lg_cmp x7.1 x15.1) = 0 then (
    m_L_law_J1748 sc L N mc ms k18 a1 a2 i3 x15.2 kc ks) else (
    none)
set_option maxHeartbeats 4000000 in
set_option maxRecDepth 100000 in
theorem t_L_law_J736 {X : mX} {L0 : Launch} {nm : String} {res : Unit} {sc : Nat → Int32} {L : Nat} {N : Nat} {mc ms : Nat} (C : CX X RL nm code 4 (some .boolean)) (E : EXL X L0 mc ms) (HX : HXP X L sc) (k18 : Nat → Nat → Int32 → mM → Nat → Nat → Option (Unit)) (Hk18 : ∀ (a1 : Nat) (a2 : Nat) (i3 : Int32) (M : mM) (kc ks : Nat) (hk : kc ≤ mc ∧ ks ≤ ms), k18 a1 a2 i3 M kc ks = some res → EV X 4 18 [(0, .ref 9), (1, .ref a1), (2, .ref a2), (3, .int i3)] [] kc ks M) (a1 : Nat) (a2 : Nat) (i3 : Int32) (M : mM) (kc ks : Nat) (hk : kc ≤ mc ∧ ks ≤ ms) (hf : m_L_law_J736 sc L N mc ms k18 a1 a2 i3 M kc ks = some res) : EV X 4 736 [(0, .ref 9), (1, .ref a1), (2, .ref a2), (3, .int i3)] [] kc ks M := by
  unfold m_L_law_J736 at hf
  refine ev_aload_n C dL_law_736 rfl (q := 1) rfl ?_
  refine ev_aload_n C dL_law_737 rfl (q := 0) rfl ?_
  refine ev_iload_n C dL_law_738 rfl (q := 3) rfl ?_
  refine ev_iconst (v := 1) C dL_law_739 (by decide) ?_
  refine ev_iadd C dL_law_740 ?_
  obtain ⟨x1, e2, hf⟩ := obnd hf
  refine ev_sld HX C dL_law_741 e2 ?_
  refine ev_aload_n C dL_law_742 rfl (q := 0) rfl ?_
  refine ev_iload_n C dL_law_743 rfl (q := 3) rfl ?_
  refine ev_iconst (v := 2) C dL_law_744 (by decide) ?_
  refine ev_iadd C dL_law_745 ?_
  obtain ⟨x3, e4, hf⟩ := obnd hf
  refine ev_sld HX C dL_law_746 e4 ?_
  obtain ⟨_, e5, hf⟩ := obnd hf
  obtain ⟨fs6, e5⟩ := oO_eq e5
  obtain ⟨x7, e8, hf⟩ := obnd hf
  refine ev_callV0 (As := [.int x1, .int x3]) (st := []) C rfl e5 (t_X11_turned e8) rfl hd_X11_turned rfl kw_613 kw_614 kw_70 kw_615 kw_616 (mRoomL E (Nat.le_of_ble_eq_true rfl) (Nat.le_of_ble_eq_true rfl) hk.1 hk.2) (Nat.le_of_ble_eq_true rfl) dL_law_747 ?_
  refine ev_aload_n C dL_law_750 rfl (q := 2) rfl ?_
  refine ev_aload_n C dL_law_751 rfl (q := 0) rfl ?_
  refine ev_iload_n C dL_law_752 rfl (q := 3) rfl ?_
  refine ev_iconst (v := 1) C dL_law_753 (by decide) ?_
  refine ev_iadd C dL_law_754 ?_
  obtain ⟨x9, e10, hf⟩ := obnd hf
  refine ev_sld HX C dL_law_755 e10 ?_
  refine ev_aload_n C dL_law_756 rfl (q := 0) rfl ?_
  refine ev_iload_n C dL_law_757 rfl (q := 3) rfl ?_
  refine ev_iconst (v := 2) C dL_law_758 (by decide) ?_
  refine ev_iadd C dL_law_759 ?_
  obtain ⟨x11, e12, hf⟩ := obnd hf
  refine ev_sld HX C dL_law_760 e12 ?_
  obtain ⟨_, e13, hf⟩ := obnd hf
  obtain ⟨fs14, e13⟩ := oO_eq e13
  obtain ⟨x15, e16, hf⟩ := obnd hf
  refine ev_callV0 (As := [.int x9, .int x11]) (st := [.long x7.1]) C rfl e13 (t_X12_turned e16) rfl hd_X12_turned rfl kw_1418 kw_1419 kw_87 kw_1420 kw_1421 (mRoomL E (Nat.le_of_ble_eq_true rfl) (Nat.le_of_ble_eq_true rfl) hk.1 hk.2) (Nat.le_of_ble_eq_true rfl) dL_law_761 ?_
  refine ev_lcmp C dL_law_764 ?_
  refine ev_if_eq (tgt := 1748) C dL_law_765 (by decide) (fun hc => ?_) (fun hc => ?_)
  · have hf := oit hf hc
    exact t_L_law_J1748 C E HX k18 Hk18 a1 a2 i3 x15.2 kc ks hk hf
  · have hf := oie hf hc
    refine ev_iconst (v := 0) C dL_law_768 (by decide) ?_
    cases hf
def m_L_law_J770 (sc : Nat → Int32) (L : Nat) (N : Nat) (mc ms : Nat) (k18 : Nat → Nat → Int32 → mM → Nat → Nat → Option (Unit)) (a1 : Nat) (a2 : Nat) (i3 : Int32) (M : mM) (kc ks : Nat) : Option (Unit) :=
  (sld sc L (i3 + 1)).bind fun x1 =>
  (sld sc L (i3 + 2)).bind fun x3 =>
  (sld sc L (i3 + 3)).bind fun x5 =>
  (oO M a1 11).bind fun _ =>
  (m_X11_had N a1 x1 x3 x5 M).bind fun x9 =>
  (sld sc L (i3 + 1)).bind fun x11 =>
  (sld sc L (i3 + 2)).bind fun x13 =>
  (sld sc L (i3 + 3)).bind fun x15 =>
  (oO x9.2 a2 12).bind fun _ =>
  (m_X12_had N a2 x11 x13 x15 x9.2).bind fun x19 =>
  if (lg_cmp x9.1 x19.1) = 0 then (
    m_L_law_J1748 sc L N mc ms k18 a1 a2 i3 x19.2 kc ks) else (
    none)
set_option maxHeartbeats 4000000 in
set_option maxRecDepth 100000 in
theorem t_L_law_J770 {X : mX} {L0 : Launch} {nm : String} {res : Unit} {sc : Nat → Int32} {L : Nat} {N : Nat} {mc ms : Nat} (C : CX X RL nm code 4 (some .boolean)) (E : EXL X L0 mc ms) (HX : HXP X L sc) (k18 : Nat → Nat → Int32 → mM → Nat → Nat → Option (Unit)) (Hk18 : ∀ (a1 : Nat) (a2 : Nat) (i3 : Int32) (M : mM) (kc ks : Nat) (hk : kc ≤ mc ∧ ks ≤ ms), k18 a1 a2 i3 M kc ks = some res → EV X 4 18 [(0, .ref 9), (1, .ref a1), (2, .ref a2), (3, .int i3)] [] kc ks M) (a1 : Nat) (a2 : Nat) (i3 : Int32) (M : mM) (kc ks : Nat) (hk : kc ≤ mc ∧ ks ≤ ms) (hf : m_L_law_J770 sc L N mc ms k18 a1 a2 i3 M kc ks = some res) : EV X 4 770 [(0, .ref 9), (1, .ref a1), (2, .ref a2), (3, .int i3)] [] kc ks M := by
  unfold m_L_law_J770 at hf
  refine ev_aload_n C dL_law_770 rfl (q := 1) rfl ?_
  refine ev_aload_n C dL_law_771 rfl (q := 0) rfl ?_
  refine ev_iload_n C dL_law_772 rfl (q := 3) rfl ?_
  refine ev_iconst (v := 1) C dL_law_773 (by decide) ?_
  refine ev_iadd C dL_law_774 ?_
  obtain ⟨x1, e2, hf⟩ := obnd hf
  refine ev_sld HX C dL_law_775 e2 ?_
  refine ev_aload_n C dL_law_776 rfl (q := 0) rfl ?_
  refine ev_iload_n C dL_law_777 rfl (q := 3) rfl ?_
  refine ev_iconst (v := 2) C dL_law_778 (by decide) ?_
  refine ev_iadd C dL_law_779 ?_
  obtain ⟨x3, e4, hf⟩ := obnd hf
  refine ev_sld HX C dL_law_780 e4 ?_
  refine ev_aload_n C dL_law_781 rfl (q := 0) rfl ?_
  refine ev_iload_n C dL_law_782 rfl (q := 3) rfl ?_
  refine ev_iconst (v := 3) C dL_law_783 (by decide) ?_
  refine ev_iadd C dL_law_784 ?_
  obtain ⟨x5, e6, hf⟩ := obnd hf
  refine ev_sld HX C dL_law_785 e6 ?_
  obtain ⟨_, e7, hf⟩ := obnd hf
  obtain ⟨fs8, e7⟩ := oO_eq e7
  obtain ⟨x9, e10, hf⟩ := obnd hf
  refine ev_callV0 (As := [.int x1, .int x3, .int x5]) (st := []) C rfl e7 (t_X11_had e10) rfl hd_X11_had rfl kw_621 kw_622 kw_70 kw_623 kw_624 (mRoomL E (Nat.le_of_ble_eq_true rfl) (Nat.le_of_ble_eq_true rfl) hk.1 hk.2) (Nat.le_of_ble_eq_true rfl) dL_law_786 ?_
  refine ev_aload_n C dL_law_789 rfl (q := 2) rfl ?_
  refine ev_aload_n C dL_law_790 rfl (q := 0) rfl ?_
  refine ev_iload_n C dL_law_791 rfl (q := 3) rfl ?_
  refine ev_iconst (v := 1) C dL_law_792 (by decide) ?_
  refine ev_iadd C dL_law_793 ?_
  obtain ⟨x11, e12, hf⟩ := obnd hf
  refine ev_sld HX C dL_law_794 e12 ?_
  refine ev_aload_n C dL_law_795 rfl (q := 0) rfl ?_
  refine ev_iload_n C dL_law_796 rfl (q := 3) rfl ?_
  refine ev_iconst (v := 2) C dL_law_797 (by decide) ?_
  refine ev_iadd C dL_law_798 ?_
  obtain ⟨x13, e14, hf⟩ := obnd hf
  refine ev_sld HX C dL_law_799 e14 ?_
  refine ev_aload_n C dL_law_800 rfl (q := 0) rfl ?_
  refine ev_iload_n C dL_law_801 rfl (q := 3) rfl ?_
  refine ev_iconst (v := 3) C dL_law_802 (by decide) ?_
  refine ev_iadd C dL_law_803 ?_
  obtain ⟨x15, e16, hf⟩ := obnd hf
  refine ev_sld HX C dL_law_804 e16 ?_
  obtain ⟨_, e17, hf⟩ := obnd hf
  obtain ⟨fs18, e17⟩ := oO_eq e17
  obtain ⟨x19, e20, hf⟩ := obnd hf
  refine ev_callV0 (As := [.int x11, .int x13, .int x15]) (st := [.long x9.1]) C rfl e17 (t_X12_had e20) rfl hd_X12_had rfl kw_1426 kw_1427 kw_87 kw_1428 kw_1429 (mRoomL E (Nat.le_of_ble_eq_true rfl) (Nat.le_of_ble_eq_true rfl) hk.1 hk.2) (Nat.le_of_ble_eq_true rfl) dL_law_805 ?_
  refine ev_lcmp C dL_law_808 ?_
  refine ev_if_eq (tgt := 1748) C dL_law_809 (by decide) (fun hc => ?_) (fun hc => ?_)
  · have hf := oit hf hc
    exact t_L_law_J1748 C E HX k18 Hk18 a1 a2 i3 x19.2 kc ks hk hf
  · have hf := oie hf hc
    refine ev_iconst (v := 0) C dL_law_812 (by decide) ?_
    cases hf
def m_L_law_J814 (sc : Nat → Int32) (L : Nat) (N : Nat) (mc ms : Nat) (k18 : Nat → Nat → Int32 → mM → Nat → Nat → Option (Unit)) (a1 : Nat) (a2 : Nat) (i3 : Int32) (M : mM) (kc ks : Nat) : Option (Unit) :=
  (sld sc L (i3 + 1)).bind fun x1 =>
  (sld sc L (i3 + 2)).bind fun x3 =>
  (oO M a1 11).bind fun _ =>
  (m_X11_booked N a1 x1 x3 M).bind fun x7 =>
  (sld sc L (i3 + 1)).bind fun x9 =>
  (sld sc L (i3 + 2)).bind fun x11 =>
  (oO x7.2 a2 12).bind fun _ =>
  (m_X12_booked N a2 x9 x11 x7.2).bind fun x15 =>
  if x7.1 = x15.1 then (
    m_L_law_J1748 sc L N mc ms k18 a1 a2 i3 x15.2 kc ks) else (
    none)
set_option maxHeartbeats 4000000 in
set_option maxRecDepth 100000 in
theorem t_L_law_J814 {X : mX} {L0 : Launch} {nm : String} {res : Unit} {sc : Nat → Int32} {L : Nat} {N : Nat} {mc ms : Nat} (C : CX X RL nm code 4 (some .boolean)) (E : EXL X L0 mc ms) (HX : HXP X L sc) (k18 : Nat → Nat → Int32 → mM → Nat → Nat → Option (Unit)) (Hk18 : ∀ (a1 : Nat) (a2 : Nat) (i3 : Int32) (M : mM) (kc ks : Nat) (hk : kc ≤ mc ∧ ks ≤ ms), k18 a1 a2 i3 M kc ks = some res → EV X 4 18 [(0, .ref 9), (1, .ref a1), (2, .ref a2), (3, .int i3)] [] kc ks M) (a1 : Nat) (a2 : Nat) (i3 : Int32) (M : mM) (kc ks : Nat) (hk : kc ≤ mc ∧ ks ≤ ms) (hf : m_L_law_J814 sc L N mc ms k18 a1 a2 i3 M kc ks = some res) : EV X 4 814 [(0, .ref 9), (1, .ref a1), (2, .ref a2), (3, .int i3)] [] kc ks M := by
  unfold m_L_law_J814 at hf
  refine ev_aload_n C dL_law_814 rfl (q := 1) rfl ?_
  refine ev_aload_n C dL_law_815 rfl (q := 0) rfl ?_
  refine ev_iload_n C dL_law_816 rfl (q := 3) rfl ?_
  refine ev_iconst (v := 1) C dL_law_817 (by decide) ?_
  refine ev_iadd C dL_law_818 ?_
  obtain ⟨x1, e2, hf⟩ := obnd hf
  refine ev_sld HX C dL_law_819 e2 ?_
  refine ev_aload_n C dL_law_820 rfl (q := 0) rfl ?_
  refine ev_iload_n C dL_law_821 rfl (q := 3) rfl ?_
  refine ev_iconst (v := 2) C dL_law_822 (by decide) ?_
  refine ev_iadd C dL_law_823 ?_
  obtain ⟨x3, e4, hf⟩ := obnd hf
  refine ev_sld HX C dL_law_824 e4 ?_
  obtain ⟨_, e5, hf⟩ := obnd hf
  obtain ⟨fs6, e5⟩ := oO_eq e5
  obtain ⟨x7, e8, hf⟩ := obnd hf
  refine ev_callV0 (As := [.int x1, .int x3]) (st := []) C rfl e5 (t_X11_booked e8) rfl hd_X11_booked rfl kw_633 kw_634 kw_70 kw_635 kw_636 (mRoomL E (Nat.le_of_ble_eq_true rfl) (Nat.le_of_ble_eq_true rfl) hk.1 hk.2) (Nat.le_of_ble_eq_true rfl) dL_law_825 ?_
  refine ev_aload_n C dL_law_828 rfl (q := 2) rfl ?_
  refine ev_aload_n C dL_law_829 rfl (q := 0) rfl ?_
  refine ev_iload_n C dL_law_830 rfl (q := 3) rfl ?_
  refine ev_iconst (v := 1) C dL_law_831 (by decide) ?_
  refine ev_iadd C dL_law_832 ?_
  obtain ⟨x9, e10, hf⟩ := obnd hf
  refine ev_sld HX C dL_law_833 e10 ?_
  refine ev_aload_n C dL_law_834 rfl (q := 0) rfl ?_
  refine ev_iload_n C dL_law_835 rfl (q := 3) rfl ?_
  refine ev_iconst (v := 2) C dL_law_836 (by decide) ?_
  refine ev_iadd C dL_law_837 ?_
  obtain ⟨x11, e12, hf⟩ := obnd hf
  refine ev_sld HX C dL_law_838 e12 ?_
  obtain ⟨_, e13, hf⟩ := obnd hf
  obtain ⟨fs14, e13⟩ := oO_eq e13
  obtain ⟨x15, e16, hf⟩ := obnd hf
  refine ev_callV0 (As := [.int x9, .int x11]) (st := [.int x7.1]) C rfl e13 (t_X12_booked e16) rfl hd_X12_booked rfl kw_1434 kw_1435 kw_87 kw_1436 kw_1437 (mRoomL E (Nat.le_of_ble_eq_true rfl) (Nat.le_of_ble_eq_true rfl) hk.1 hk.2) (Nat.le_of_ble_eq_true rfl) dL_law_839 ?_
  refine ev_icmp_eq (tgt := 1748) C dL_law_842 (by decide) (fun hc => ?_) (fun hc => ?_)
  · have hf := oit hf hc
    exact t_L_law_J1748 C E HX k18 Hk18 a1 a2 i3 x15.2 kc ks hk hf
  · have hf := oie hf hc
    refine ev_iconst (v := 0) C dL_law_845 (by decide) ?_
    cases hf
def m_L_law_J847 (sc : Nat → Int32) (L : Nat) (N : Nat) (mc ms : Nat) (k18 : Nat → Nat → Int32 → mM → Nat → Nat → Option (Unit)) (a1 : Nat) (a2 : Nat) (i3 : Int32) (M : mM) (kc ks : Nat) : Option (Unit) :=
  (sld sc L (i3 + 1)).bind fun x1 =>
  (sld sc L (i3 + 2)).bind fun x3 =>
  (sld sc L (i3 + 3)).bind fun x5 =>
  (oO M a1 11).bind fun _ =>
  (m_X11_ways N a1 x1 x3 x5 M).bind fun x9 =>
  (sld sc L (i3 + 1)).bind fun x11 =>
  (sld sc L (i3 + 2)).bind fun x13 =>
  (sld sc L (i3 + 3)).bind fun x15 =>
  (oO x9.2 a2 12).bind fun _ =>
  (m_X12_ways N a2 x11 x13 x15 x9.2).bind fun x19 =>
  if (lg_cmp x9.1 x19.1) = 0 then (
    m_L_law_J1748 sc L N mc ms k18 a1 a2 i3 x19.2 kc ks) else (
    none)
set_option maxHeartbeats 4000000 in
set_option maxRecDepth 100000 in
theorem t_L_law_J847 {X : mX} {L0 : Launch} {nm : String} {res : Unit} {sc : Nat → Int32} {L : Nat} {N : Nat} {mc ms : Nat} (C : CX X RL nm code 4 (some .boolean)) (E : EXL X L0 mc ms) (HX : HXP X L sc) (k18 : Nat → Nat → Int32 → mM → Nat → Nat → Option (Unit)) (Hk18 : ∀ (a1 : Nat) (a2 : Nat) (i3 : Int32) (M : mM) (kc ks : Nat) (hk : kc ≤ mc ∧ ks ≤ ms), k18 a1 a2 i3 M kc ks = some res → EV X 4 18 [(0, .ref 9), (1, .ref a1), (2, .ref a2), (3, .int i3)] [] kc ks M) (a1 : Nat) (a2 : Nat) (i3 : Int32) (M : mM) (kc ks : Nat) (hk : kc ≤ mc ∧ ks ≤ ms) (hf : m_L_law_J847 sc L N mc ms k18 a1 a2 i3 M kc ks = some res) : EV X 4 847 [(0, .ref 9), (1, .ref a1), (2, .ref a2), (3, .int i3)] [] kc ks M := by
  unfold m_L_law_J847 at hf
  refine ev_aload_n C dL_law_847 rfl (q := 1) rfl ?_
  refine ev_aload_n C dL_law_848 rfl (q := 0) rfl ?_
  refine ev_iload_n C dL_law_849 rfl (q := 3) rfl ?_
  refine ev_iconst (v := 1) C dL_law_850 (by decide) ?_
  refine ev_iadd C dL_law_851 ?_
  obtain ⟨x1, e2, hf⟩ := obnd hf
  refine ev_sld HX C dL_law_852 e2 ?_
  refine ev_aload_n C dL_law_853 rfl (q := 0) rfl ?_
  refine ev_iload_n C dL_law_854 rfl (q := 3) rfl ?_
  refine ev_iconst (v := 2) C dL_law_855 (by decide) ?_
  refine ev_iadd C dL_law_856 ?_
  obtain ⟨x3, e4, hf⟩ := obnd hf
  refine ev_sld HX C dL_law_857 e4 ?_
  refine ev_aload_n C dL_law_858 rfl (q := 0) rfl ?_
  refine ev_iload_n C dL_law_859 rfl (q := 3) rfl ?_
  refine ev_iconst (v := 3) C dL_law_860 (by decide) ?_
  refine ev_iadd C dL_law_861 ?_
  obtain ⟨x5, e6, hf⟩ := obnd hf
  refine ev_sld HX C dL_law_862 e6 ?_
  obtain ⟨_, e7, hf⟩ := obnd hf
  obtain ⟨fs8, e7⟩ := oO_eq e7
  obtain ⟨x9, e10, hf⟩ := obnd hf
  refine ev_callV0 (As := [.int x1, .int x3, .int x5]) (st := []) C rfl e7 (t_X11_ways e10) rfl hd_X11_ways rfl kw_642 kw_643 kw_70 kw_644 kw_645 (mRoomL E (Nat.le_of_ble_eq_true rfl) (Nat.le_of_ble_eq_true rfl) hk.1 hk.2) (Nat.le_of_ble_eq_true rfl) dL_law_863 ?_
  refine ev_aload_n C dL_law_866 rfl (q := 2) rfl ?_
  refine ev_aload_n C dL_law_867 rfl (q := 0) rfl ?_
  refine ev_iload_n C dL_law_868 rfl (q := 3) rfl ?_
  refine ev_iconst (v := 1) C dL_law_869 (by decide) ?_
  refine ev_iadd C dL_law_870 ?_
  obtain ⟨x11, e12, hf⟩ := obnd hf
  refine ev_sld HX C dL_law_871 e12 ?_
  refine ev_aload_n C dL_law_872 rfl (q := 0) rfl ?_
  refine ev_iload_n C dL_law_873 rfl (q := 3) rfl ?_
  refine ev_iconst (v := 2) C dL_law_874 (by decide) ?_
  refine ev_iadd C dL_law_875 ?_
  obtain ⟨x13, e14, hf⟩ := obnd hf
  refine ev_sld HX C dL_law_876 e14 ?_
  refine ev_aload_n C dL_law_877 rfl (q := 0) rfl ?_
  refine ev_iload_n C dL_law_878 rfl (q := 3) rfl ?_
  refine ev_iconst (v := 3) C dL_law_879 (by decide) ?_
  refine ev_iadd C dL_law_880 ?_
  obtain ⟨x15, e16, hf⟩ := obnd hf
  refine ev_sld HX C dL_law_881 e16 ?_
  obtain ⟨_, e17, hf⟩ := obnd hf
  obtain ⟨fs18, e17⟩ := oO_eq e17
  obtain ⟨x19, e20, hf⟩ := obnd hf
  refine ev_callV0 (As := [.int x11, .int x13, .int x15]) (st := [.long x9.1]) C rfl e17 (t_X12_ways e20) rfl hd_X12_ways rfl kw_1438 kw_1439 kw_87 kw_1440 kw_1441 (mRoomL E (Nat.le_of_ble_eq_true rfl) (Nat.le_of_ble_eq_true rfl) hk.1 hk.2) (Nat.le_of_ble_eq_true rfl) dL_law_882 ?_
  refine ev_lcmp C dL_law_885 ?_
  refine ev_if_eq (tgt := 1748) C dL_law_886 (by decide) (fun hc => ?_) (fun hc => ?_)
  · have hf := oit hf hc
    exact t_L_law_J1748 C E HX k18 Hk18 a1 a2 i3 x19.2 kc ks hk hf
  · have hf := oie hf hc
    refine ev_iconst (v := 0) C dL_law_889 (by decide) ?_
    cases hf
def m_L_law_J891 (sc : Nat → Int32) (L : Nat) (N : Nat) (mc ms : Nat) (k18 : Nat → Nat → Int32 → mM → Nat → Nat → Option (Unit)) (a1 : Nat) (a2 : Nat) (i3 : Int32) (M : mM) (kc ks : Nat) : Option (Unit) :=
  (sld sc L (i3 + 1)).bind fun x1 =>
  (sld sc L (i3 + 2)).bind fun x3 =>
  (sld sc L (i3 + 3)).bind fun x5 =>
  (oO M a1 11).bind fun _ =>
  (m_X11_leg a1 x1 x3 x5 M).bind fun x9 =>
  (sld sc L (i3 + 1)).bind fun x11 =>
  (sld sc L (i3 + 2)).bind fun x13 =>
  (sld sc L (i3 + 3)).bind fun x15 =>
  (oO x9.2 a2 12).bind fun _ =>
  (m_X12_leg a2 x11 x13 x15 x9.2).bind fun x19 =>
  if x9.1 = x19.1 then (
    m_L_law_J1748 sc L N mc ms k18 a1 a2 i3 x19.2 kc ks) else (
    none)
set_option maxHeartbeats 4000000 in
set_option maxRecDepth 100000 in
theorem t_L_law_J891 {X : mX} {L0 : Launch} {nm : String} {res : Unit} {sc : Nat → Int32} {L : Nat} {N : Nat} {mc ms : Nat} (C : CX X RL nm code 4 (some .boolean)) (E : EXL X L0 mc ms) (HX : HXP X L sc) (k18 : Nat → Nat → Int32 → mM → Nat → Nat → Option (Unit)) (Hk18 : ∀ (a1 : Nat) (a2 : Nat) (i3 : Int32) (M : mM) (kc ks : Nat) (hk : kc ≤ mc ∧ ks ≤ ms), k18 a1 a2 i3 M kc ks = some res → EV X 4 18 [(0, .ref 9), (1, .ref a1), (2, .ref a2), (3, .int i3)] [] kc ks M) (a1 : Nat) (a2 : Nat) (i3 : Int32) (M : mM) (kc ks : Nat) (hk : kc ≤ mc ∧ ks ≤ ms) (hf : m_L_law_J891 sc L N mc ms k18 a1 a2 i3 M kc ks = some res) : EV X 4 891 [(0, .ref 9), (1, .ref a1), (2, .ref a2), (3, .int i3)] [] kc ks M := by
  unfold m_L_law_J891 at hf
  refine ev_aload_n C dL_law_891 rfl (q := 1) rfl ?_
  refine ev_aload_n C dL_law_892 rfl (q := 0) rfl ?_
  refine ev_iload_n C dL_law_893 rfl (q := 3) rfl ?_
  refine ev_iconst (v := 1) C dL_law_894 (by decide) ?_
  refine ev_iadd C dL_law_895 ?_
  obtain ⟨x1, e2, hf⟩ := obnd hf
  refine ev_sld HX C dL_law_896 e2 ?_
  refine ev_aload_n C dL_law_897 rfl (q := 0) rfl ?_
  refine ev_iload_n C dL_law_898 rfl (q := 3) rfl ?_
  refine ev_iconst (v := 2) C dL_law_899 (by decide) ?_
  refine ev_iadd C dL_law_900 ?_
  obtain ⟨x3, e4, hf⟩ := obnd hf
  refine ev_sld HX C dL_law_901 e4 ?_
  refine ev_aload_n C dL_law_902 rfl (q := 0) rfl ?_
  refine ev_iload_n C dL_law_903 rfl (q := 3) rfl ?_
  refine ev_iconst (v := 3) C dL_law_904 (by decide) ?_
  refine ev_iadd C dL_law_905 ?_
  obtain ⟨x5, e6, hf⟩ := obnd hf
  refine ev_sld HX C dL_law_906 e6 ?_
  obtain ⟨_, e7, hf⟩ := obnd hf
  obtain ⟨fs8, e7⟩ := oO_eq e7
  obtain ⟨x9, e10, hf⟩ := obnd hf
  refine ev_callV0 (As := [.int x1, .int x3, .int x5]) (st := []) C rfl e7 (t_X11_leg e10) rfl hd_X11_leg rfl kw_671 kw_672 kw_70 kw_673 kw_674 (mRoomL E (Nat.le_of_ble_eq_true rfl) (Nat.le_of_ble_eq_true rfl) hk.1 hk.2) (Nat.le_of_ble_eq_true rfl) dL_law_907 ?_
  refine ev_aload_n C dL_law_910 rfl (q := 2) rfl ?_
  refine ev_aload_n C dL_law_911 rfl (q := 0) rfl ?_
  refine ev_iload_n C dL_law_912 rfl (q := 3) rfl ?_
  refine ev_iconst (v := 1) C dL_law_913 (by decide) ?_
  refine ev_iadd C dL_law_914 ?_
  obtain ⟨x11, e12, hf⟩ := obnd hf
  refine ev_sld HX C dL_law_915 e12 ?_
  refine ev_aload_n C dL_law_916 rfl (q := 0) rfl ?_
  refine ev_iload_n C dL_law_917 rfl (q := 3) rfl ?_
  refine ev_iconst (v := 2) C dL_law_918 (by decide) ?_
  refine ev_iadd C dL_law_919 ?_
  obtain ⟨x13, e14, hf⟩ := obnd hf
  refine ev_sld HX C dL_law_920 e14 ?_
  refine ev_aload_n C dL_law_921 rfl (q := 0) rfl ?_
  refine ev_iload_n C dL_law_922 rfl (q := 3) rfl ?_
  refine ev_iconst (v := 3) C dL_law_923 (by decide) ?_
  refine ev_iadd C dL_law_924 ?_
  obtain ⟨x15, e16, hf⟩ := obnd hf
  refine ev_sld HX C dL_law_925 e16 ?_
  obtain ⟨_, e17, hf⟩ := obnd hf
  obtain ⟨fs18, e17⟩ := oO_eq e17
  obtain ⟨x19, e20, hf⟩ := obnd hf
  refine ev_callV0 (As := [.int x11, .int x13, .int x15]) (st := [.int x9.1]) C rfl e17 (t_X12_leg e20) rfl hd_X12_leg rfl kw_1487 kw_1488 kw_87 kw_1489 kw_1490 (mRoomL E (Nat.le_of_ble_eq_true rfl) (Nat.le_of_ble_eq_true rfl) hk.1 hk.2) (Nat.le_of_ble_eq_true rfl) dL_law_926 ?_
  refine ev_icmp_eq (tgt := 1748) C dL_law_929 (by decide) (fun hc => ?_) (fun hc => ?_)
  · have hf := oit hf hc
    exact t_L_law_J1748 C E HX k18 Hk18 a1 a2 i3 x19.2 kc ks hk hf
  · have hf := oie hf hc
    refine ev_iconst (v := 0) C dL_law_932 (by decide) ?_
    cases hf
def m_L_law_J934 (sc : Nat → Int32) (L : Nat) (N : Nat) (mc ms : Nat) (k18 : Nat → Nat → Int32 → mM → Nat → Nat → Option (Unit)) (a1 : Nat) (a2 : Nat) (i3 : Int32) (M : mM) (kc ks : Nat) : Option (Unit) :=
  (sld sc L (i3 + 1)).bind fun x1 =>
  (oO M a1 11).bind fun _ =>
  (m_X11_feed a1 x1 M).bind fun x5 =>
  (sld sc L (i3 + 1)).bind fun x7 =>
  (oO x5.2 a2 12).bind fun _ =>
  (m_X12_feed a2 x7 x5.2).bind fun x11 =>
  if x5.1 = x11.1 then (
    m_L_law_J1748 sc L N mc ms k18 a1 a2 i3 x11.2 kc ks) else (
    none)
set_option maxHeartbeats 4000000 in
set_option maxRecDepth 100000 in
theorem t_L_law_J934 {X : mX} {L0 : Launch} {nm : String} {res : Unit} {sc : Nat → Int32} {L : Nat} {N : Nat} {mc ms : Nat} (C : CX X RL nm code 4 (some .boolean)) (E : EXL X L0 mc ms) (HX : HXP X L sc) (k18 : Nat → Nat → Int32 → mM → Nat → Nat → Option (Unit)) (Hk18 : ∀ (a1 : Nat) (a2 : Nat) (i3 : Int32) (M : mM) (kc ks : Nat) (hk : kc ≤ mc ∧ ks ≤ ms), k18 a1 a2 i3 M kc ks = some res → EV X 4 18 [(0, .ref 9), (1, .ref a1), (2, .ref a2), (3, .int i3)] [] kc ks M) (a1 : Nat) (a2 : Nat) (i3 : Int32) (M : mM) (kc ks : Nat) (hk : kc ≤ mc ∧ ks ≤ ms) (hf : m_L_law_J934 sc L N mc ms k18 a1 a2 i3 M kc ks = some res) : EV X 4 934 [(0, .ref 9), (1, .ref a1), (2, .ref a2), (3, .int i3)] [] kc ks M := by
  unfold m_L_law_J934 at hf
  refine ev_aload_n C dL_law_934 rfl (q := 1) rfl ?_
  refine ev_aload_n C dL_law_935 rfl (q := 0) rfl ?_
  refine ev_iload_n C dL_law_936 rfl (q := 3) rfl ?_
  refine ev_iconst (v := 1) C dL_law_937 (by decide) ?_
  refine ev_iadd C dL_law_938 ?_
  obtain ⟨x1, e2, hf⟩ := obnd hf
  refine ev_sld HX C dL_law_939 e2 ?_
  obtain ⟨_, e3, hf⟩ := obnd hf
  obtain ⟨fs4, e3⟩ := oO_eq e3
  obtain ⟨x5, e6, hf⟩ := obnd hf
  refine ev_callV0 (As := [.int x1]) (st := []) C rfl e3 (t_X11_feed e6) rfl hd_X11_feed rfl kw_675 kw_676 kw_70 kw_677 kw_678 (mRoomL E (Nat.le_of_ble_eq_true rfl) (Nat.le_of_ble_eq_true rfl) hk.1 hk.2) (Nat.le_of_ble_eq_true rfl) dL_law_940 ?_
  refine ev_aload_n C dL_law_943 rfl (q := 2) rfl ?_
  refine ev_aload_n C dL_law_944 rfl (q := 0) rfl ?_
  refine ev_iload_n C dL_law_945 rfl (q := 3) rfl ?_
  refine ev_iconst (v := 1) C dL_law_946 (by decide) ?_
  refine ev_iadd C dL_law_947 ?_
  obtain ⟨x7, e8, hf⟩ := obnd hf
  refine ev_sld HX C dL_law_948 e8 ?_
  obtain ⟨_, e9, hf⟩ := obnd hf
  obtain ⟨fs10, e9⟩ := oO_eq e9
  obtain ⟨x11, e12, hf⟩ := obnd hf
  refine ev_callV0 (As := [.int x7]) (st := [.int x5.1]) C rfl e9 (t_X12_feed e12) rfl hd_X12_feed rfl kw_1543 kw_1544 kw_87 kw_1545 kw_1546 (mRoomL E (Nat.le_of_ble_eq_true rfl) (Nat.le_of_ble_eq_true rfl) hk.1 hk.2) (Nat.le_of_ble_eq_true rfl) dL_law_949 ?_
  refine ev_icmp_eq (tgt := 1748) C dL_law_952 (by decide) (fun hc => ?_) (fun hc => ?_)
  · have hf := oit hf hc
    exact t_L_law_J1748 C E HX k18 Hk18 a1 a2 i3 x11.2 kc ks hk hf
  · have hf := oie hf hc
    refine ev_iconst (v := 0) C dL_law_955 (by decide) ?_
    cases hf
def m_L_law_J957 (sc : Nat → Int32) (L : Nat) (N : Nat) (mc ms : Nat) (k18 : Nat → Nat → Int32 → mM → Nat → Nat → Option (Unit)) (a1 : Nat) (a2 : Nat) (i3 : Int32) (M : mM) (kc ks : Nat) : Option (Unit) :=
  (oO M a1 11).bind fun _ =>
  (m_X11_clear a1 M).bind fun x3 =>
  (oO x3.2 a2 12).bind fun _ =>
  (m_X12_clear a2 x3.2).bind fun x7 =>
  if x3.1 = x7.1 then (
    m_L_law_J1748 sc L N mc ms k18 a1 a2 i3 x7.2 kc ks) else (
    none)
set_option maxHeartbeats 4000000 in
set_option maxRecDepth 100000 in
theorem t_L_law_J957 {X : mX} {L0 : Launch} {nm : String} {res : Unit} {sc : Nat → Int32} {L : Nat} {N : Nat} {mc ms : Nat} (C : CX X RL nm code 4 (some .boolean)) (E : EXL X L0 mc ms) (HX : HXP X L sc) (k18 : Nat → Nat → Int32 → mM → Nat → Nat → Option (Unit)) (Hk18 : ∀ (a1 : Nat) (a2 : Nat) (i3 : Int32) (M : mM) (kc ks : Nat) (hk : kc ≤ mc ∧ ks ≤ ms), k18 a1 a2 i3 M kc ks = some res → EV X 4 18 [(0, .ref 9), (1, .ref a1), (2, .ref a2), (3, .int i3)] [] kc ks M) (a1 : Nat) (a2 : Nat) (i3 : Int32) (M : mM) (kc ks : Nat) (hk : kc ≤ mc ∧ ks ≤ ms) (hf : m_L_law_J957 sc L N mc ms k18 a1 a2 i3 M kc ks = some res) : EV X 4 957 [(0, .ref 9), (1, .ref a1), (2, .ref a2), (3, .int i3)] [] kc ks M := by
  unfold m_L_law_J957 at hf
  refine ev_aload_n C dL_law_957 rfl (q := 1) rfl ?_
  obtain ⟨_, e1, hf⟩ := obnd hf
  obtain ⟨fs2, e1⟩ := oO_eq e1
  obtain ⟨x3, e4, hf⟩ := obnd hf
  refine ev_callV0 (As := []) (st := []) C rfl e1 (t_X11_clear e4) rfl hd_X11_clear rfl kw_683 kw_684 kw_70 kw_685 kw_686 (mRoomL E (Nat.le_of_ble_eq_true rfl) (Nat.le_of_ble_eq_true rfl) hk.1 hk.2) (Nat.le_of_ble_eq_true rfl) dL_law_958 ?_
  refine ev_aload_n C dL_law_961 rfl (q := 2) rfl ?_
  obtain ⟨_, e5, hf⟩ := obnd hf
  obtain ⟨fs6, e5⟩ := oO_eq e5
  obtain ⟨x7, e8, hf⟩ := obnd hf
  refine ev_callV0 (As := []) (st := [.int x3.1]) C rfl e5 (t_X12_clear e8) rfl hd_X12_clear rfl kw_1548 kw_1549 kw_87 kw_1550 kw_1551 (mRoomL E (Nat.le_of_ble_eq_true rfl) (Nat.le_of_ble_eq_true rfl) hk.1 hk.2) (Nat.le_of_ble_eq_true rfl) dL_law_962 ?_
  refine ev_icmp_eq (tgt := 1748) C dL_law_965 (by decide) (fun hc => ?_) (fun hc => ?_)
  · have hf := oit hf hc
    exact t_L_law_J1748 C E HX k18 Hk18 a1 a2 i3 x7.2 kc ks hk hf
  · have hf := oie hf hc
    refine ev_iconst (v := 0) C dL_law_968 (by decide) ?_
    cases hf
def m_L_law_J970 (sc : Nat → Int32) (L : Nat) (N : Nat) (mc ms : Nat) (k18 : Nat → Nat → Int32 → mM → Nat → Nat → Option (Unit)) (a1 : Nat) (a2 : Nat) (i3 : Int32) (M : mM) (kc ks : Nat) : Option (Unit) :=
  (oO M a1 11).bind fun _ =>
  (oif (kc + 13 ≤ mc ∧ ks + 52 ≤ ms)).bind fun _ =>
  (m_X11_book N 13 52 a1 M).bind fun x3 =>
  (oO x3.2 a2 12).bind fun _ =>
  (m_X12_book N a2 x3.2).bind fun x7 =>
  if x3.1 = x7.1 then (
    m_L_law_J1748 sc L N mc ms k18 a1 a2 i3 x7.2 (kc + 13) (ks + 52)) else (
    none)
set_option maxHeartbeats 4000000 in
set_option maxRecDepth 100000 in
theorem t_L_law_J970 {X : mX} {L0 : Launch} {nm : String} {res : Unit} {sc : Nat → Int32} {L : Nat} {N : Nat} {mc ms : Nat} (C : CX X RL nm code 4 (some .boolean)) (E : EXL X L0 mc ms) (HX : HXP X L sc) (k18 : Nat → Nat → Int32 → mM → Nat → Nat → Option (Unit)) (Hk18 : ∀ (a1 : Nat) (a2 : Nat) (i3 : Int32) (M : mM) (kc ks : Nat) (hk : kc ≤ mc ∧ ks ≤ ms), k18 a1 a2 i3 M kc ks = some res → EV X 4 18 [(0, .ref 9), (1, .ref a1), (2, .ref a2), (3, .int i3)] [] kc ks M) (a1 : Nat) (a2 : Nat) (i3 : Int32) (M : mM) (kc ks : Nat) (hk : kc ≤ mc ∧ ks ≤ ms) (hf : m_L_law_J970 sc L N mc ms k18 a1 a2 i3 M kc ks = some res) : EV X 4 970 [(0, .ref 9), (1, .ref a1), (2, .ref a2), (3, .int i3)] [] kc ks M := by
  unfold m_L_law_J970 at hf
  refine ev_aload_n C dL_law_970 rfl (q := 1) rfl ?_
  obtain ⟨_, e1, hf⟩ := obnd hf
  obtain ⟨fs2, e1⟩ := oO_eq e1
  obtain ⟨_, hk, hf⟩ := obnd hf
  have hk := oif_eq hk
  obtain ⟨x3, e4, hf⟩ := obnd hf
  refine ev_callV (As := []) (st := []) C rfl e1 (t_X11_book e4) rfl hd_X11_book rfl kw_691 kw_692 kw_70 kw_693 kw_694 (mRoomL E (Nat.le_of_ble_eq_true rfl) (Nat.le_of_ble_eq_true rfl) hk.1 hk.2) (Nat.le_of_ble_eq_true rfl) dL_law_971 ?_
  refine ev_aload_n C dL_law_974 rfl (q := 2) rfl ?_
  obtain ⟨_, e5, hf⟩ := obnd hf
  obtain ⟨fs6, e5⟩ := oO_eq e5
  obtain ⟨x7, e8, hf⟩ := obnd hf
  refine ev_callV0 (As := []) (st := [.int x3.1]) C rfl e5 (t_X12_book e8) rfl hd_X12_book rfl kw_1552 kw_1553 kw_87 kw_1554 kw_1555 (mRoomL E (Nat.le_of_ble_eq_true rfl) (Nat.le_of_ble_eq_true rfl) hk.1 hk.2) (Nat.le_of_ble_eq_true rfl) dL_law_975 ?_
  refine ev_icmp_eq (tgt := 1748) C dL_law_978 (by decide) (fun hc => ?_) (fun hc => ?_)
  · have hf := oit hf hc
    exact t_L_law_J1748 C E HX k18 Hk18 a1 a2 i3 x7.2 (kc + 13) (ks + 52) hk hf
  · have hf := oie hf hc
    refine ev_iconst (v := 0) C dL_law_981 (by decide) ?_
    cases hf
def m_L_law_J983 (sc : Nat → Int32) (L : Nat) (N : Nat) (mc ms : Nat) (k18 : Nat → Nat → Int32 → mM → Nat → Nat → Option (Unit)) (a1 : Nat) (a2 : Nat) (i3 : Int32) (M : mM) (kc ks : Nat) : Option (Unit) :=
  (oO M a1 11).bind fun _ =>
  (m_X11_ends N a1 M).bind fun x3 =>
  (oO x3.2 a2 12).bind fun _ =>
  (m_X12_ends N a2 x3.2).bind fun x7 =>
  if x3.1 = x7.1 then (
    m_L_law_J1748 sc L N mc ms k18 a1 a2 i3 x7.2 kc ks) else (
    none)
set_option maxHeartbeats 4000000 in
set_option maxRecDepth 100000 in
theorem t_L_law_J983 {X : mX} {L0 : Launch} {nm : String} {res : Unit} {sc : Nat → Int32} {L : Nat} {N : Nat} {mc ms : Nat} (C : CX X RL nm code 4 (some .boolean)) (E : EXL X L0 mc ms) (HX : HXP X L sc) (k18 : Nat → Nat → Int32 → mM → Nat → Nat → Option (Unit)) (Hk18 : ∀ (a1 : Nat) (a2 : Nat) (i3 : Int32) (M : mM) (kc ks : Nat) (hk : kc ≤ mc ∧ ks ≤ ms), k18 a1 a2 i3 M kc ks = some res → EV X 4 18 [(0, .ref 9), (1, .ref a1), (2, .ref a2), (3, .int i3)] [] kc ks M) (a1 : Nat) (a2 : Nat) (i3 : Int32) (M : mM) (kc ks : Nat) (hk : kc ≤ mc ∧ ks ≤ ms) (hf : m_L_law_J983 sc L N mc ms k18 a1 a2 i3 M kc ks = some res) : EV X 4 983 [(0, .ref 9), (1, .ref a1), (2, .ref a2), (3, .int i3)] [] kc ks M := by
  unfold m_L_law_J983 at hf
  refine ev_aload_n C dL_law_983 rfl (q := 1) rfl ?_
  obtain ⟨_, e1, hf⟩ := obnd hf
  obtain ⟨fs2, e1⟩ := oO_eq e1
  obtain ⟨x3, e4, hf⟩ := obnd hf
  refine ev_callV0 (As := []) (st := []) C rfl e1 (t_X11_ends e4) rfl hd_X11_ends rfl kw_771 kw_772 kw_70 kw_773 kw_774 (mRoomL E (Nat.le_of_ble_eq_true rfl) (Nat.le_of_ble_eq_true rfl) hk.1 hk.2) (Nat.le_of_ble_eq_true rfl) dL_law_984 ?_
  refine ev_aload_n C dL_law_987 rfl (q := 2) rfl ?_
  obtain ⟨_, e5, hf⟩ := obnd hf
  obtain ⟨fs6, e5⟩ := oO_eq e5
  obtain ⟨x7, e8, hf⟩ := obnd hf
  refine ev_callV0 (As := []) (st := [.int x3.1]) C rfl e5 (t_X12_ends e8) rfl hd_X12_ends rfl kw_1595 kw_1596 kw_87 kw_1597 kw_1598 (mRoomL E (Nat.le_of_ble_eq_true rfl) (Nat.le_of_ble_eq_true rfl) hk.1 hk.2) (Nat.le_of_ble_eq_true rfl) dL_law_988 ?_
  refine ev_icmp_eq (tgt := 1748) C dL_law_991 (by decide) (fun hc => ?_) (fun hc => ?_)
  · have hf := oit hf hc
    exact t_L_law_J1748 C E HX k18 Hk18 a1 a2 i3 x7.2 kc ks hk hf
  · have hf := oie hf hc
    refine ev_iconst (v := 0) C dL_law_994 (by decide) ?_
    cases hf
def m_L_law_J996 (sc : Nat → Int32) (L : Nat) (N : Nat) (mc ms : Nat) (k18 : Nat → Nat → Int32 → mM → Nat → Nat → Option (Unit)) (a1 : Nat) (a2 : Nat) (i3 : Int32) (M : mM) (kc ks : Nat) : Option (Unit) :=
  (sld sc L (i3 + 1)).bind fun x1 =>
  (sld sc L (i3 + 2)).bind fun x3 =>
  (oO M a1 11).bind fun _ =>
  (m_X11_route N a1 x1 x3 M).bind fun x7 =>
  (sld sc L (i3 + 1)).bind fun x9 =>
  (sld sc L (i3 + 2)).bind fun x11 =>
  (oO M a2 12).bind fun _ =>
  (m_X12_route N a2 x9 x11 M).bind fun x15 =>
  if x7 = x15.1 then (
    m_L_law_J1748 sc L N mc ms k18 a1 a2 i3 x15.2 kc ks) else (
    none)
set_option maxHeartbeats 4000000 in
set_option maxRecDepth 100000 in
theorem t_L_law_J996 {X : mX} {L0 : Launch} {nm : String} {res : Unit} {sc : Nat → Int32} {L : Nat} {N : Nat} {mc ms : Nat} (C : CX X RL nm code 4 (some .boolean)) (E : EXL X L0 mc ms) (HX : HXP X L sc) (k18 : Nat → Nat → Int32 → mM → Nat → Nat → Option (Unit)) (Hk18 : ∀ (a1 : Nat) (a2 : Nat) (i3 : Int32) (M : mM) (kc ks : Nat) (hk : kc ≤ mc ∧ ks ≤ ms), k18 a1 a2 i3 M kc ks = some res → EV X 4 18 [(0, .ref 9), (1, .ref a1), (2, .ref a2), (3, .int i3)] [] kc ks M) (a1 : Nat) (a2 : Nat) (i3 : Int32) (M : mM) (kc ks : Nat) (hk : kc ≤ mc ∧ ks ≤ ms) (hf : m_L_law_J996 sc L N mc ms k18 a1 a2 i3 M kc ks = some res) : EV X 4 996 [(0, .ref 9), (1, .ref a1), (2, .ref a2), (3, .int i3)] [] kc ks M := by
  unfold m_L_law_J996 at hf
  refine ev_aload_n C dL_law_996 rfl (q := 1) rfl ?_
  refine ev_aload_n C dL_law_997 rfl (q := 0) rfl ?_
  refine ev_iload_n C dL_law_998 rfl (q := 3) rfl ?_
  refine ev_iconst (v := 1) C dL_law_999 (by decide) ?_
  refine ev_iadd C dL_law_1000 ?_
  obtain ⟨x1, e2, hf⟩ := obnd hf
  refine ev_sld HX C dL_law_1001 e2 ?_
  refine ev_aload_n C dL_law_1002 rfl (q := 0) rfl ?_
  refine ev_iload_n C dL_law_1003 rfl (q := 3) rfl ?_
  refine ev_iconst (v := 2) C dL_law_1004 (by decide) ?_
  refine ev_iadd C dL_law_1005 ?_
  obtain ⟨x3, e4, hf⟩ := obnd hf
  refine ev_sld HX C dL_law_1006 e4 ?_
  obtain ⟨_, e5, hf⟩ := obnd hf
  obtain ⟨fs6, e5⟩ := oO_eq e5
  obtain ⟨x7, e8, hf⟩ := obnd hf
  refine ev_callV0 (As := [.int x1, .int x3]) (st := []) C rfl e5 (t_X11_route e8) rfl hd_X11_route rfl kw_784 kw_785 kw_70 kw_786 kw_787 (mRoomL E (Nat.le_of_ble_eq_true rfl) (Nat.le_of_ble_eq_true rfl) hk.1 hk.2) (Nat.le_of_ble_eq_true rfl) dL_law_1007 ?_
  refine ev_aload_n C dL_law_1010 rfl (q := 2) rfl ?_
  refine ev_aload_n C dL_law_1011 rfl (q := 0) rfl ?_
  refine ev_iload_n C dL_law_1012 rfl (q := 3) rfl ?_
  refine ev_iconst (v := 1) C dL_law_1013 (by decide) ?_
  refine ev_iadd C dL_law_1014 ?_
  obtain ⟨x9, e10, hf⟩ := obnd hf
  refine ev_sld HX C dL_law_1015 e10 ?_
  refine ev_aload_n C dL_law_1016 rfl (q := 0) rfl ?_
  refine ev_iload_n C dL_law_1017 rfl (q := 3) rfl ?_
  refine ev_iconst (v := 2) C dL_law_1018 (by decide) ?_
  refine ev_iadd C dL_law_1019 ?_
  obtain ⟨x11, e12, hf⟩ := obnd hf
  refine ev_sld HX C dL_law_1020 e12 ?_
  obtain ⟨_, e13, hf⟩ := obnd hf
  obtain ⟨fs14, e13⟩ := oO_eq e13
  obtain ⟨x15, e16, hf⟩ := obnd hf
  refine ev_callV0 (As := [.int x9, .int x11]) (st := [.int x7]) C rfl e13 (t_X12_route e16) rfl hd_X12_route rfl kw_1531 kw_1532 kw_87 kw_1533 kw_1534 (mRoomL E (Nat.le_of_ble_eq_true rfl) (Nat.le_of_ble_eq_true rfl) hk.1 hk.2) (Nat.le_of_ble_eq_true rfl) dL_law_1021 ?_
  refine ev_icmp_eq (tgt := 1748) C dL_law_1024 (by decide) (fun hc => ?_) (fun hc => ?_)
  · have hf := oit hf hc
    exact t_L_law_J1748 C E HX k18 Hk18 a1 a2 i3 x15.2 kc ks hk hf
  · have hf := oie hf hc
    refine ev_iconst (v := 0) C dL_law_1027 (by decide) ?_
    cases hf
def m_L_law_J1029 (sc : Nat → Int32) (L : Nat) (N : Nat) (mc ms : Nat) (k18 : Nat → Nat → Int32 → mM → Nat → Nat → Option (Unit)) (a1 : Nat) (a2 : Nat) (i3 : Int32) (M : mM) (kc ks : Nat) : Option (Unit) :=
  (sld sc L (i3 + 1)).bind fun x1 =>
  (sld sc L (i3 + 2)).bind fun x3 =>
  (oO M a1 11).bind fun _ =>
  (m_X11_part N a1 x1 x3 M).bind fun x7 =>
  (sld sc L (i3 + 1)).bind fun x9 =>
  (sld sc L (i3 + 2)).bind fun x11 =>
  (oO M a2 12).bind fun _ =>
  (m_X12_part N a2 x9 x11 M).bind fun x15 =>
  if x7 = x15 then (
    m_L_law_J1748 sc L N mc ms k18 a1 a2 i3 M kc ks) else (
    none)
set_option maxHeartbeats 4000000 in
set_option maxRecDepth 100000 in
theorem t_L_law_J1029 {X : mX} {L0 : Launch} {nm : String} {res : Unit} {sc : Nat → Int32} {L : Nat} {N : Nat} {mc ms : Nat} (C : CX X RL nm code 4 (some .boolean)) (E : EXL X L0 mc ms) (HX : HXP X L sc) (k18 : Nat → Nat → Int32 → mM → Nat → Nat → Option (Unit)) (Hk18 : ∀ (a1 : Nat) (a2 : Nat) (i3 : Int32) (M : mM) (kc ks : Nat) (hk : kc ≤ mc ∧ ks ≤ ms), k18 a1 a2 i3 M kc ks = some res → EV X 4 18 [(0, .ref 9), (1, .ref a1), (2, .ref a2), (3, .int i3)] [] kc ks M) (a1 : Nat) (a2 : Nat) (i3 : Int32) (M : mM) (kc ks : Nat) (hk : kc ≤ mc ∧ ks ≤ ms) (hf : m_L_law_J1029 sc L N mc ms k18 a1 a2 i3 M kc ks = some res) : EV X 4 1029 [(0, .ref 9), (1, .ref a1), (2, .ref a2), (3, .int i3)] [] kc ks M := by
  unfold m_L_law_J1029 at hf
  refine ev_aload_n C dL_law_1029 rfl (q := 1) rfl ?_
  refine ev_aload_n C dL_law_1030 rfl (q := 0) rfl ?_
  refine ev_iload_n C dL_law_1031 rfl (q := 3) rfl ?_
  refine ev_iconst (v := 1) C dL_law_1032 (by decide) ?_
  refine ev_iadd C dL_law_1033 ?_
  obtain ⟨x1, e2, hf⟩ := obnd hf
  refine ev_sld HX C dL_law_1034 e2 ?_
  refine ev_aload_n C dL_law_1035 rfl (q := 0) rfl ?_
  refine ev_iload_n C dL_law_1036 rfl (q := 3) rfl ?_
  refine ev_iconst (v := 2) C dL_law_1037 (by decide) ?_
  refine ev_iadd C dL_law_1038 ?_
  obtain ⟨x3, e4, hf⟩ := obnd hf
  refine ev_sld HX C dL_law_1039 e4 ?_
  obtain ⟨_, e5, hf⟩ := obnd hf
  obtain ⟨fs6, e5⟩ := oO_eq e5
  obtain ⟨x7, e8, hf⟩ := obnd hf
  refine ev_callV0 (As := [.int x1, .int x3]) (st := []) C rfl e5 (t_X11_part e8) rfl hd_X11_part rfl kw_817 kw_818 kw_70 kw_819 kw_820 (mRoomL E (Nat.le_of_ble_eq_true rfl) (Nat.le_of_ble_eq_true rfl) hk.1 hk.2) (Nat.le_of_ble_eq_true rfl) dL_law_1040 ?_
  refine ev_aload_n C dL_law_1043 rfl (q := 2) rfl ?_
  refine ev_aload_n C dL_law_1044 rfl (q := 0) rfl ?_
  refine ev_iload_n C dL_law_1045 rfl (q := 3) rfl ?_
  refine ev_iconst (v := 1) C dL_law_1046 (by decide) ?_
  refine ev_iadd C dL_law_1047 ?_
  obtain ⟨x9, e10, hf⟩ := obnd hf
  refine ev_sld HX C dL_law_1048 e10 ?_
  refine ev_aload_n C dL_law_1049 rfl (q := 0) rfl ?_
  refine ev_iload_n C dL_law_1050 rfl (q := 3) rfl ?_
  refine ev_iconst (v := 2) C dL_law_1051 (by decide) ?_
  refine ev_iadd C dL_law_1052 ?_
  obtain ⟨x11, e12, hf⟩ := obnd hf
  refine ev_sld HX C dL_law_1053 e12 ?_
  obtain ⟨_, e13, hf⟩ := obnd hf
  obtain ⟨fs14, e13⟩ := oO_eq e13
  obtain ⟨x15, e16, hf⟩ := obnd hf
  refine ev_callV0 (As := [.int x9, .int x11]) (st := [.int x7]) C rfl e13 (t_X12_part e16) rfl hd_X12_part rfl kw_1495 kw_1496 kw_87 kw_1497 kw_1498 (mRoomL E (Nat.le_of_ble_eq_true rfl) (Nat.le_of_ble_eq_true rfl) hk.1 hk.2) (Nat.le_of_ble_eq_true rfl) dL_law_1054 ?_
  refine ev_icmp_eq (tgt := 1748) C dL_law_1057 (by decide) (fun hc => ?_) (fun hc => ?_)
  · have hf := oit hf hc
    exact t_L_law_J1748 C E HX k18 Hk18 a1 a2 i3 M kc ks hk hf
  · have hf := oie hf hc
    refine ev_iconst (v := 0) C dL_law_1060 (by decide) ?_
    cases hf
def m_L_law_J1062 (sc : Nat → Int32) (L : Nat) (N : Nat) (mc ms : Nat) (k18 : Nat → Nat → Int32 → mM → Nat → Nat → Option (Unit)) (a1 : Nat) (a2 : Nat) (i3 : Int32) (M : mM) (kc ks : Nat) : Option (Unit) :=
  (sld sc L (i3 + 1)).bind fun x1 =>
  (oO M a1 11).bind fun _ =>
  (m_X11_cost N a1 x1 M).bind fun x5 =>
  (sld sc L (i3 + 1)).bind fun x7 =>
  (oO M a2 12).bind fun _ =>
  (m_X12_cost N a2 x7 M).bind fun x11 =>
  if x5 = x11.1 then (
    m_L_law_J1748 sc L N mc ms k18 a1 a2 i3 x11.2 kc ks) else (
    none)
set_option maxHeartbeats 4000000 in
set_option maxRecDepth 100000 in
theorem t_L_law_J1062 {X : mX} {L0 : Launch} {nm : String} {res : Unit} {sc : Nat → Int32} {L : Nat} {N : Nat} {mc ms : Nat} (C : CX X RL nm code 4 (some .boolean)) (E : EXL X L0 mc ms) (HX : HXP X L sc) (k18 : Nat → Nat → Int32 → mM → Nat → Nat → Option (Unit)) (Hk18 : ∀ (a1 : Nat) (a2 : Nat) (i3 : Int32) (M : mM) (kc ks : Nat) (hk : kc ≤ mc ∧ ks ≤ ms), k18 a1 a2 i3 M kc ks = some res → EV X 4 18 [(0, .ref 9), (1, .ref a1), (2, .ref a2), (3, .int i3)] [] kc ks M) (a1 : Nat) (a2 : Nat) (i3 : Int32) (M : mM) (kc ks : Nat) (hk : kc ≤ mc ∧ ks ≤ ms) (hf : m_L_law_J1062 sc L N mc ms k18 a1 a2 i3 M kc ks = some res) : EV X 4 1062 [(0, .ref 9), (1, .ref a1), (2, .ref a2), (3, .int i3)] [] kc ks M := by
  unfold m_L_law_J1062 at hf
  refine ev_aload_n C dL_law_1062 rfl (q := 1) rfl ?_
  refine ev_aload_n C dL_law_1063 rfl (q := 0) rfl ?_
  refine ev_iload_n C dL_law_1064 rfl (q := 3) rfl ?_
  refine ev_iconst (v := 1) C dL_law_1065 (by decide) ?_
  refine ev_iadd C dL_law_1066 ?_
  obtain ⟨x1, e2, hf⟩ := obnd hf
  refine ev_sld HX C dL_law_1067 e2 ?_
  obtain ⟨_, e3, hf⟩ := obnd hf
  obtain ⟨fs4, e3⟩ := oO_eq e3
  obtain ⟨x5, e6, hf⟩ := obnd hf
  refine ev_callV0 (As := [.int x1]) (st := []) C rfl e3 (t_X11_cost e6) rfl hd_X11_cost rfl kw_822 kw_823 kw_70 kw_824 kw_825 (mRoomL E (Nat.le_of_ble_eq_true rfl) (Nat.le_of_ble_eq_true rfl) hk.1 hk.2) (Nat.le_of_ble_eq_true rfl) dL_law_1068 ?_
  refine ev_aload_n C dL_law_1071 rfl (q := 2) rfl ?_
  refine ev_aload_n C dL_law_1072 rfl (q := 0) rfl ?_
  refine ev_iload_n C dL_law_1073 rfl (q := 3) rfl ?_
  refine ev_iconst (v := 1) C dL_law_1074 (by decide) ?_
  refine ev_iadd C dL_law_1075 ?_
  obtain ⟨x7, e8, hf⟩ := obnd hf
  refine ev_sld HX C dL_law_1076 e8 ?_
  obtain ⟨_, e9, hf⟩ := obnd hf
  obtain ⟨fs10, e9⟩ := oO_eq e9
  obtain ⟨x11, e12, hf⟩ := obnd hf
  refine ev_callV0 (As := [.int x7]) (st := [.int x5]) C rfl e9 (t_X12_cost e12) rfl hd_X12_cost rfl kw_1519 kw_1520 kw_87 kw_1521 kw_1522 (mRoomL E (Nat.le_of_ble_eq_true rfl) (Nat.le_of_ble_eq_true rfl) hk.1 hk.2) (Nat.le_of_ble_eq_true rfl) dL_law_1077 ?_
  refine ev_icmp_eq (tgt := 1748) C dL_law_1080 (by decide) (fun hc => ?_) (fun hc => ?_)
  · have hf := oit hf hc
    exact t_L_law_J1748 C E HX k18 Hk18 a1 a2 i3 x11.2 kc ks hk hf
  · have hf := oie hf hc
    refine ev_iconst (v := 0) C dL_law_1083 (by decide) ?_
    cases hf
def m_L_law_J1085 (sc : Nat → Int32) (L : Nat) (N : Nat) (mc ms : Nat) (k18 : Nat → Nat → Int32 → mM → Nat → Nat → Option (Unit)) (a1 : Nat) (a2 : Nat) (i3 : Int32) (M : mM) (kc ks : Nat) : Option (Unit) :=
  (sld sc L (i3 + 1)).bind fun x1 =>
  (oO M a1 11).bind fun _ =>
  (m_X11_replay N a1 x1 M).bind fun x5 =>
  (sld sc L (i3 + 1)).bind fun x7 =>
  (oO x5.2 a2 12).bind fun _ =>
  (m_X12_replay N a2 x7 x5.2).bind fun x11 =>
  if x5.1 = x11.1 then (
    m_L_law_J1748 sc L N mc ms k18 a1 a2 i3 x11.2 kc ks) else (
    none)
set_option maxHeartbeats 4000000 in
set_option maxRecDepth 100000 in
theorem t_L_law_J1085 {X : mX} {L0 : Launch} {nm : String} {res : Unit} {sc : Nat → Int32} {L : Nat} {N : Nat} {mc ms : Nat} (C : CX X RL nm code 4 (some .boolean)) (E : EXL X L0 mc ms) (HX : HXP X L sc) (k18 : Nat → Nat → Int32 → mM → Nat → Nat → Option (Unit)) (Hk18 : ∀ (a1 : Nat) (a2 : Nat) (i3 : Int32) (M : mM) (kc ks : Nat) (hk : kc ≤ mc ∧ ks ≤ ms), k18 a1 a2 i3 M kc ks = some res → EV X 4 18 [(0, .ref 9), (1, .ref a1), (2, .ref a2), (3, .int i3)] [] kc ks M) (a1 : Nat) (a2 : Nat) (i3 : Int32) (M : mM) (kc ks : Nat) (hk : kc ≤ mc ∧ ks ≤ ms) (hf : m_L_law_J1085 sc L N mc ms k18 a1 a2 i3 M kc ks = some res) : EV X 4 1085 [(0, .ref 9), (1, .ref a1), (2, .ref a2), (3, .int i3)] [] kc ks M := by
  unfold m_L_law_J1085 at hf
  refine ev_aload_n C dL_law_1085 rfl (q := 1) rfl ?_
  refine ev_aload_n C dL_law_1086 rfl (q := 0) rfl ?_
  refine ev_iload_n C dL_law_1087 rfl (q := 3) rfl ?_
  refine ev_iconst (v := 1) C dL_law_1088 (by decide) ?_
  refine ev_iadd C dL_law_1089 ?_
  obtain ⟨x1, e2, hf⟩ := obnd hf
  refine ev_sld HX C dL_law_1090 e2 ?_
  obtain ⟨_, e3, hf⟩ := obnd hf
  obtain ⟨fs4, e3⟩ := oO_eq e3
  obtain ⟨x5, e6, hf⟩ := obnd hf
  refine ev_callV0 (As := [.int x1]) (st := []) C rfl e3 (t_X11_replay e6) rfl hd_X11_replay rfl kw_1009 kw_1010 kw_70 kw_1011 kw_1012 (mRoomL E (Nat.le_of_ble_eq_true rfl) (Nat.le_of_ble_eq_true rfl) hk.1 hk.2) (Nat.le_of_ble_eq_true rfl) dL_law_1091 ?_
  refine ev_aload_n C dL_law_1094 rfl (q := 2) rfl ?_
  refine ev_aload_n C dL_law_1095 rfl (q := 0) rfl ?_
  refine ev_iload_n C dL_law_1096 rfl (q := 3) rfl ?_
  refine ev_iconst (v := 1) C dL_law_1097 (by decide) ?_
  refine ev_iadd C dL_law_1098 ?_
  obtain ⟨x7, e8, hf⟩ := obnd hf
  refine ev_sld HX C dL_law_1099 e8 ?_
  obtain ⟨_, e9, hf⟩ := obnd hf
  obtain ⟨fs10, e9⟩ := oO_eq e9
  obtain ⟨x11, e12, hf⟩ := obnd hf
  refine ev_callV0 (As := [.int x7]) (st := [.int x5.1]) C rfl e9 (t_X12_replay e12) rfl hd_X12_replay rfl kw_1599 kw_1600 kw_87 kw_1601 kw_1602 (mRoomL E (Nat.le_of_ble_eq_true rfl) (Nat.le_of_ble_eq_true rfl) hk.1 hk.2) (Nat.le_of_ble_eq_true rfl) dL_law_1100 ?_
  refine ev_icmp_eq (tgt := 1748) C dL_law_1103 (by decide) (fun hc => ?_) (fun hc => ?_)
  · have hf := oit hf hc
    exact t_L_law_J1748 C E HX k18 Hk18 a1 a2 i3 x11.2 kc ks hk hf
  · have hf := oie hf hc
    refine ev_iconst (v := 0) C dL_law_1106 (by decide) ?_
    cases hf
def m_L_law_J1108 (sc : Nat → Int32) (L : Nat) (N : Nat) (mc ms : Nat) (k18 : Nat → Nat → Int32 → mM → Nat → Nat → Option (Unit)) (a1 : Nat) (a2 : Nat) (i3 : Int32) (M : mM) (kc ks : Nat) : Option (Unit) :=
  (oO M a1 11).bind fun _ =>
  (oif (kc + 300 ≤ mc ∧ ks + 600 ≤ ms)).bind fun _ =>
  (m_X11_spell N 300 600 a1 M).bind fun x3 =>
  (oO x3.2 a2 12).bind fun _ =>
  (m_X12_spell N a2 x3.2).bind fun x7 =>
  if x3.1 = x7.1 then (
    m_L_law_J1748 sc L N mc ms k18 a1 a2 i3 x7.2 (kc + 300) (ks + 600)) else (
    none)
set_option maxHeartbeats 4000000 in
set_option maxRecDepth 100000 in
theorem t_L_law_J1108 {X : mX} {L0 : Launch} {nm : String} {res : Unit} {sc : Nat → Int32} {L : Nat} {N : Nat} {mc ms : Nat} (C : CX X RL nm code 4 (some .boolean)) (E : EXL X L0 mc ms) (HX : HXP X L sc) (k18 : Nat → Nat → Int32 → mM → Nat → Nat → Option (Unit)) (Hk18 : ∀ (a1 : Nat) (a2 : Nat) (i3 : Int32) (M : mM) (kc ks : Nat) (hk : kc ≤ mc ∧ ks ≤ ms), k18 a1 a2 i3 M kc ks = some res → EV X 4 18 [(0, .ref 9), (1, .ref a1), (2, .ref a2), (3, .int i3)] [] kc ks M) (a1 : Nat) (a2 : Nat) (i3 : Int32) (M : mM) (kc ks : Nat) (hk : kc ≤ mc ∧ ks ≤ ms) (hf : m_L_law_J1108 sc L N mc ms k18 a1 a2 i3 M kc ks = some res) : EV X 4 1108 [(0, .ref 9), (1, .ref a1), (2, .ref a2), (3, .int i3)] [] kc ks M := by
  unfold m_L_law_J1108 at hf
  refine ev_aload_n C dL_law_1108 rfl (q := 1) rfl ?_
  obtain ⟨_, e1, hf⟩ := obnd hf
  obtain ⟨fs2, e1⟩ := oO_eq e1
  obtain ⟨_, hk, hf⟩ := obnd hf
  have hk := oif_eq hk
  obtain ⟨x3, e4, hf⟩ := obnd hf
  refine ev_callV (As := []) (st := []) C rfl e1 (t_X11_spell e4) rfl hd_X11_spell rfl kw_827 kw_828 kw_70 kw_829 kw_830 (mRoomL E (Nat.le_of_ble_eq_true rfl) (Nat.le_of_ble_eq_true rfl) hk.1 hk.2) (Nat.le_of_ble_eq_true rfl) dL_law_1109 ?_
  refine ev_aload_n C dL_law_1112 rfl (q := 2) rfl ?_
  obtain ⟨_, e5, hf⟩ := obnd hf
  obtain ⟨fs6, e5⟩ := oO_eq e5
  obtain ⟨x7, e8, hf⟩ := obnd hf
  refine ev_callV0 (As := []) (st := [.int x3.1]) C rfl e5 (t_X12_spell e8) rfl hd_X12_spell rfl kw_1620 kw_1621 kw_87 kw_1622 kw_1623 (mRoomL E (Nat.le_of_ble_eq_true rfl) (Nat.le_of_ble_eq_true rfl) hk.1 hk.2) (Nat.le_of_ble_eq_true rfl) dL_law_1113 ?_
  refine ev_icmp_eq (tgt := 1748) C dL_law_1116 (by decide) (fun hc => ?_) (fun hc => ?_)
  · have hf := oit hf hc
    exact t_L_law_J1748 C E HX k18 Hk18 a1 a2 i3 x7.2 (kc + 300) (ks + 600) hk hf
  · have hf := oie hf hc
    refine ev_iconst (v := 0) C dL_law_1119 (by decide) ?_
    cases hf
def m_L_law_J1121 (sc : Nat → Int32) (L : Nat) (N : Nat) (mc ms : Nat) (k18 : Nat → Nat → Int32 → mM → Nat → Nat → Option (Unit)) (a1 : Nat) (a2 : Nat) (i3 : Int32) (M : mM) (kc ks : Nat) : Option (Unit) :=
  (sld sc L (i3 + 1)).bind fun x1 =>
  (oO M a1 11).bind fun _ =>
  (m_X11_paper a1 x1 M).bind fun x5 =>
  (sld sc L (i3 + 1)).bind fun x7 =>
  (oO M a2 12).bind fun _ =>
  (m_X12_paper a2 x7 M).bind fun x11 =>
  if x5 = x11 then (
    m_L_law_J1748 sc L N mc ms k18 a1 a2 i3 M kc ks) else (
    none)
set_option maxHeartbeats 4000000 in
set_option maxRecDepth 100000 in
theorem t_L_law_J1121 {X : mX} {L0 : Launch} {nm : String} {res : Unit} {sc : Nat → Int32} {L : Nat} {N : Nat} {mc ms : Nat} (C : CX X RL nm code 4 (some .boolean)) (E : EXL X L0 mc ms) (HX : HXP X L sc) (k18 : Nat → Nat → Int32 → mM → Nat → Nat → Option (Unit)) (Hk18 : ∀ (a1 : Nat) (a2 : Nat) (i3 : Int32) (M : mM) (kc ks : Nat) (hk : kc ≤ mc ∧ ks ≤ ms), k18 a1 a2 i3 M kc ks = some res → EV X 4 18 [(0, .ref 9), (1, .ref a1), (2, .ref a2), (3, .int i3)] [] kc ks M) (a1 : Nat) (a2 : Nat) (i3 : Int32) (M : mM) (kc ks : Nat) (hk : kc ≤ mc ∧ ks ≤ ms) (hf : m_L_law_J1121 sc L N mc ms k18 a1 a2 i3 M kc ks = some res) : EV X 4 1121 [(0, .ref 9), (1, .ref a1), (2, .ref a2), (3, .int i3)] [] kc ks M := by
  unfold m_L_law_J1121 at hf
  refine ev_aload_n C dL_law_1121 rfl (q := 1) rfl ?_
  refine ev_aload_n C dL_law_1122 rfl (q := 0) rfl ?_
  refine ev_iload_n C dL_law_1123 rfl (q := 3) rfl ?_
  refine ev_iconst (v := 1) C dL_law_1124 (by decide) ?_
  refine ev_iadd C dL_law_1125 ?_
  obtain ⟨x1, e2, hf⟩ := obnd hf
  refine ev_sld HX C dL_law_1126 e2 ?_
  obtain ⟨_, e3, hf⟩ := obnd hf
  obtain ⟨fs4, e3⟩ := oO_eq e3
  obtain ⟨x5, e6, hf⟩ := obnd hf
  refine ev_callV0 (As := [.int x1]) (st := []) C rfl e3 (t_X11_paper e6) rfl hd_X11_paper rfl kw_993 kw_994 kw_70 kw_995 kw_996 (mRoomL E (Nat.le_of_ble_eq_true rfl) (Nat.le_of_ble_eq_true rfl) hk.1 hk.2) (Nat.le_of_ble_eq_true rfl) dL_law_1127 ?_
  refine ev_aload_n C dL_law_1130 rfl (q := 2) rfl ?_
  refine ev_aload_n C dL_law_1131 rfl (q := 0) rfl ?_
  refine ev_iload_n C dL_law_1132 rfl (q := 3) rfl ?_
  refine ev_iconst (v := 1) C dL_law_1133 (by decide) ?_
  refine ev_iadd C dL_law_1134 ?_
  obtain ⟨x7, e8, hf⟩ := obnd hf
  refine ev_sld HX C dL_law_1135 e8 ?_
  obtain ⟨_, e9, hf⟩ := obnd hf
  obtain ⟨fs10, e9⟩ := oO_eq e9
  obtain ⟨x11, e12, hf⟩ := obnd hf
  refine ev_callV0 (As := [.int x7]) (st := [.int x5]) C rfl e9 (t_X12_paper e12) rfl hd_X12_paper rfl kw_1632 kw_1633 kw_87 kw_1634 kw_1635 (mRoomL E (Nat.le_of_ble_eq_true rfl) (Nat.le_of_ble_eq_true rfl) hk.1 hk.2) (Nat.le_of_ble_eq_true rfl) dL_law_1136 ?_
  refine ev_icmp_eq (tgt := 1748) C dL_law_1139 (by decide) (fun hc => ?_) (fun hc => ?_)
  · have hf := oit hf hc
    exact t_L_law_J1748 C E HX k18 Hk18 a1 a2 i3 M kc ks hk hf
  · have hf := oie hf hc
    refine ev_iconst (v := 0) C dL_law_1142 (by decide) ?_
    cases hf
def m_L_law_J1144 (sc : Nat → Int32) (L : Nat) (N : Nat) (mc ms : Nat) (k18 : Nat → Nat → Int32 → mM → Nat → Nat → Option (Unit)) (a1 : Nat) (a2 : Nat) (i3 : Int32) (M : mM) (kc ks : Nat) : Option (Unit) :=
  (sld sc L (i3 + 1)).bind fun x1 =>
  (oO M a1 11).bind fun _ =>
  (m_X11_told N a1 x1 M).bind fun x5 =>
  (sld sc L (i3 + 1)).bind fun x7 =>
  (oO M a2 12).bind fun _ =>
  (m_X12_told N a2 x7 M).bind fun x11 =>
  if x5 = x11 then (
    m_L_law_J1748 sc L N mc ms k18 a1 a2 i3 M kc ks) else (
    none)
set_option maxHeartbeats 4000000 in
set_option maxRecDepth 100000 in
theorem t_L_law_J1144 {X : mX} {L0 : Launch} {nm : String} {res : Unit} {sc : Nat → Int32} {L : Nat} {N : Nat} {mc ms : Nat} (C : CX X RL nm code 4 (some .boolean)) (E : EXL X L0 mc ms) (HX : HXP X L sc) (k18 : Nat → Nat → Int32 → mM → Nat → Nat → Option (Unit)) (Hk18 : ∀ (a1 : Nat) (a2 : Nat) (i3 : Int32) (M : mM) (kc ks : Nat) (hk : kc ≤ mc ∧ ks ≤ ms), k18 a1 a2 i3 M kc ks = some res → EV X 4 18 [(0, .ref 9), (1, .ref a1), (2, .ref a2), (3, .int i3)] [] kc ks M) (a1 : Nat) (a2 : Nat) (i3 : Int32) (M : mM) (kc ks : Nat) (hk : kc ≤ mc ∧ ks ≤ ms) (hf : m_L_law_J1144 sc L N mc ms k18 a1 a2 i3 M kc ks = some res) : EV X 4 1144 [(0, .ref 9), (1, .ref a1), (2, .ref a2), (3, .int i3)] [] kc ks M := by
  unfold m_L_law_J1144 at hf
  refine ev_aload_n C dL_law_1144 rfl (q := 1) rfl ?_
  refine ev_aload_n C dL_law_1145 rfl (q := 0) rfl ?_
  refine ev_iload_n C dL_law_1146 rfl (q := 3) rfl ?_
  refine ev_iconst (v := 1) C dL_law_1147 (by decide) ?_
  refine ev_iadd C dL_law_1148 ?_
  obtain ⟨x1, e2, hf⟩ := obnd hf
  refine ev_sld HX C dL_law_1149 e2 ?_
  obtain ⟨_, e3, hf⟩ := obnd hf
  obtain ⟨fs4, e3⟩ := oO_eq e3
  obtain ⟨x5, e6, hf⟩ := obnd hf
  refine ev_callV0 (As := [.int x1]) (st := []) C rfl e3 (t_X11_told e6) rfl hd_X11_told rfl kw_1117 kw_1118 kw_70 kw_1119 kw_1120 (mRoomL E (Nat.le_of_ble_eq_true rfl) (Nat.le_of_ble_eq_true rfl) hk.1 hk.2) (Nat.le_of_ble_eq_true rfl) dL_law_1150 ?_
  refine ev_aload_n C dL_law_1153 rfl (q := 2) rfl ?_
  refine ev_aload_n C dL_law_1154 rfl (q := 0) rfl ?_
  refine ev_iload_n C dL_law_1155 rfl (q := 3) rfl ?_
  refine ev_iconst (v := 1) C dL_law_1156 (by decide) ?_
  refine ev_iadd C dL_law_1157 ?_
  obtain ⟨x7, e8, hf⟩ := obnd hf
  refine ev_sld HX C dL_law_1158 e8 ?_
  obtain ⟨_, e9, hf⟩ := obnd hf
  obtain ⟨fs10, e9⟩ := oO_eq e9
  obtain ⟨x11, e12, hf⟩ := obnd hf
  refine ev_callV0 (As := [.int x7]) (st := [.int x5]) C rfl e9 (t_X12_told e12) rfl hd_X12_told rfl kw_1636 kw_1637 kw_87 kw_1638 kw_1639 (mRoomL E (Nat.le_of_ble_eq_true rfl) (Nat.le_of_ble_eq_true rfl) hk.1 hk.2) (Nat.le_of_ble_eq_true rfl) dL_law_1159 ?_
  refine ev_icmp_eq (tgt := 1748) C dL_law_1162 (by decide) (fun hc => ?_) (fun hc => ?_)
  · have hf := oit hf hc
    exact t_L_law_J1748 C E HX k18 Hk18 a1 a2 i3 M kc ks hk hf
  · have hf := oie hf hc
    refine ev_iconst (v := 0) C dL_law_1165 (by decide) ?_
    cases hf
def m_L_law_J1167 (sc : Nat → Int32) (L : Nat) (N : Nat) (mc ms : Nat) (k18 : Nat → Nat → Int32 → mM → Nat → Nat → Option (Unit)) (a1 : Nat) (a2 : Nat) (i3 : Int32) (M : mM) (kc ks : Nat) : Option (Unit) :=
  (sld sc L (i3 + 1)).bind fun x1 =>
  (sld sc L (i3 + 2)).bind fun x3 =>
  (sld sc L (i3 + 3)).bind fun x5 =>
  (oO M a1 11).bind fun _ =>
  (m_X11_demand N a1 x1 x3 x5 M).bind fun x9 =>
  (sld sc L (i3 + 1)).bind fun x11 =>
  (sld sc L (i3 + 2)).bind fun x13 =>
  (sld sc L (i3 + 3)).bind fun x15 =>
  (oO x9.2 a2 12).bind fun _ =>
  (m_X12_demand N a2 x11 x13 x15 x9.2).bind fun x19 =>
  if (lg_cmp x9.1 x19.1) = 0 then (
    m_L_law_J1748 sc L N mc ms k18 a1 a2 i3 x19.2 kc ks) else (
    none)
set_option maxHeartbeats 4000000 in
set_option maxRecDepth 100000 in
theorem t_L_law_J1167 {X : mX} {L0 : Launch} {nm : String} {res : Unit} {sc : Nat → Int32} {L : Nat} {N : Nat} {mc ms : Nat} (C : CX X RL nm code 4 (some .boolean)) (E : EXL X L0 mc ms) (HX : HXP X L sc) (k18 : Nat → Nat → Int32 → mM → Nat → Nat → Option (Unit)) (Hk18 : ∀ (a1 : Nat) (a2 : Nat) (i3 : Int32) (M : mM) (kc ks : Nat) (hk : kc ≤ mc ∧ ks ≤ ms), k18 a1 a2 i3 M kc ks = some res → EV X 4 18 [(0, .ref 9), (1, .ref a1), (2, .ref a2), (3, .int i3)] [] kc ks M) (a1 : Nat) (a2 : Nat) (i3 : Int32) (M : mM) (kc ks : Nat) (hk : kc ≤ mc ∧ ks ≤ ms) (hf : m_L_law_J1167 sc L N mc ms k18 a1 a2 i3 M kc ks = some res) : EV X 4 1167 [(0, .ref 9), (1, .ref a1), (2, .ref a2), (3, .int i3)] [] kc ks M := by
  unfold m_L_law_J1167 at hf
  refine ev_aload_n C dL_law_1167 rfl (q := 1) rfl ?_
  refine ev_aload_n C dL_law_1168 rfl (q := 0) rfl ?_
  refine ev_iload_n C dL_law_1169 rfl (q := 3) rfl ?_
  refine ev_iconst (v := 1) C dL_law_1170 (by decide) ?_
  refine ev_iadd C dL_law_1171 ?_
  obtain ⟨x1, e2, hf⟩ := obnd hf
  refine ev_sld HX C dL_law_1172 e2 ?_
  refine ev_aload_n C dL_law_1173 rfl (q := 0) rfl ?_
  refine ev_iload_n C dL_law_1174 rfl (q := 3) rfl ?_
  refine ev_iconst (v := 2) C dL_law_1175 (by decide) ?_
  refine ev_iadd C dL_law_1176 ?_
  obtain ⟨x3, e4, hf⟩ := obnd hf
  refine ev_sld HX C dL_law_1177 e4 ?_
  refine ev_aload_n C dL_law_1178 rfl (q := 0) rfl ?_
  refine ev_iload_n C dL_law_1179 rfl (q := 3) rfl ?_
  refine ev_iconst (v := 3) C dL_law_1180 (by decide) ?_
  refine ev_iadd C dL_law_1181 ?_
  obtain ⟨x5, e6, hf⟩ := obnd hf
  refine ev_sld HX C dL_law_1182 e6 ?_
  obtain ⟨_, e7, hf⟩ := obnd hf
  obtain ⟨fs8, e7⟩ := oO_eq e7
  obtain ⟨x9, e10, hf⟩ := obnd hf
  refine ev_callV0 (As := [.int x1, .int x3, .int x5]) (st := []) C rfl e7 (t_X11_demand e10) rfl hd_X11_demand rfl kw_657 kw_658 kw_70 kw_659 kw_660 (mRoomL E (Nat.le_of_ble_eq_true rfl) (Nat.le_of_ble_eq_true rfl) hk.1 hk.2) (Nat.le_of_ble_eq_true rfl) dL_law_1183 ?_
  refine ev_aload_n C dL_law_1186 rfl (q := 2) rfl ?_
  refine ev_aload_n C dL_law_1187 rfl (q := 0) rfl ?_
  refine ev_iload_n C dL_law_1188 rfl (q := 3) rfl ?_
  refine ev_iconst (v := 1) C dL_law_1189 (by decide) ?_
  refine ev_iadd C dL_law_1190 ?_
  obtain ⟨x11, e12, hf⟩ := obnd hf
  refine ev_sld HX C dL_law_1191 e12 ?_
  refine ev_aload_n C dL_law_1192 rfl (q := 0) rfl ?_
  refine ev_iload_n C dL_law_1193 rfl (q := 3) rfl ?_
  refine ev_iconst (v := 2) C dL_law_1194 (by decide) ?_
  refine ev_iadd C dL_law_1195 ?_
  obtain ⟨x13, e14, hf⟩ := obnd hf
  refine ev_sld HX C dL_law_1196 e14 ?_
  refine ev_aload_n C dL_law_1197 rfl (q := 0) rfl ?_
  refine ev_iload_n C dL_law_1198 rfl (q := 3) rfl ?_
  refine ev_iconst (v := 3) C dL_law_1199 (by decide) ?_
  refine ev_iadd C dL_law_1200 ?_
  obtain ⟨x15, e16, hf⟩ := obnd hf
  refine ev_sld HX C dL_law_1201 e16 ?_
  obtain ⟨_, e17, hf⟩ := obnd hf
  obtain ⟨fs18, e17⟩ := oO_eq e17
  obtain ⟨x19, e20, hf⟩ := obnd hf
  refine ev_callV0 (As := [.int x11, .int x13, .int x15]) (st := [.long x9.1]) C rfl e17 (t_X12_demand e20) rfl hd_X12_demand rfl kw_1446 kw_1447 kw_87 kw_1448 kw_1449 (mRoomL E (Nat.le_of_ble_eq_true rfl) (Nat.le_of_ble_eq_true rfl) hk.1 hk.2) (Nat.le_of_ble_eq_true rfl) dL_law_1202 ?_
  refine ev_lcmp C dL_law_1205 ?_
  refine ev_if_eq (tgt := 1748) C dL_law_1206 (by decide) (fun hc => ?_) (fun hc => ?_)
  · have hf := oit hf hc
    exact t_L_law_J1748 C E HX k18 Hk18 a1 a2 i3 x19.2 kc ks hk hf
  · have hf := oie hf hc
    refine ev_iconst (v := 0) C dL_law_1209 (by decide) ?_
    cases hf
def m_L_law_J1211 (sc : Nat → Int32) (L : Nat) (N : Nat) (mc ms : Nat) (k18 : Nat → Nat → Int32 → mM → Nat → Nat → Option (Unit)) (a1 : Nat) (a2 : Nat) (i3 : Int32) (M : mM) (kc ks : Nat) : Option (Unit) :=
  (sld sc L (i3 + 1)).bind fun x1 =>
  (sld sc L (i3 + 2)).bind fun x3 =>
  (sld sc L (i3 + 3)).bind fun x5 =>
  (oO M a1 11).bind fun _ =>
  (m_X11_spill N a1 x1 x3 x5 M).bind fun x9 =>
  (sld sc L (i3 + 1)).bind fun x11 =>
  (sld sc L (i3 + 2)).bind fun x13 =>
  (sld sc L (i3 + 3)).bind fun x15 =>
  (oO x9.2 a2 12).bind fun _ =>
  (m_X12_spill N a2 x11 x13 x15 x9.2).bind fun x19 =>
  if (lg_cmp x9.1 x19.1) = 0 then (
    m_L_law_J1748 sc L N mc ms k18 a1 a2 i3 x19.2 kc ks) else (
    none)
set_option maxHeartbeats 4000000 in
set_option maxRecDepth 100000 in
theorem t_L_law_J1211 {X : mX} {L0 : Launch} {nm : String} {res : Unit} {sc : Nat → Int32} {L : Nat} {N : Nat} {mc ms : Nat} (C : CX X RL nm code 4 (some .boolean)) (E : EXL X L0 mc ms) (HX : HXP X L sc) (k18 : Nat → Nat → Int32 → mM → Nat → Nat → Option (Unit)) (Hk18 : ∀ (a1 : Nat) (a2 : Nat) (i3 : Int32) (M : mM) (kc ks : Nat) (hk : kc ≤ mc ∧ ks ≤ ms), k18 a1 a2 i3 M kc ks = some res → EV X 4 18 [(0, .ref 9), (1, .ref a1), (2, .ref a2), (3, .int i3)] [] kc ks M) (a1 : Nat) (a2 : Nat) (i3 : Int32) (M : mM) (kc ks : Nat) (hk : kc ≤ mc ∧ ks ≤ ms) (hf : m_L_law_J1211 sc L N mc ms k18 a1 a2 i3 M kc ks = some res) : EV X 4 1211 [(0, .ref 9), (1, .ref a1), (2, .ref a2), (3, .int i3)] [] kc ks M := by
  unfold m_L_law_J1211 at hf
  refine ev_aload_n C dL_law_1211 rfl (q := 1) rfl ?_
  refine ev_aload_n C dL_law_1212 rfl (q := 0) rfl ?_
  refine ev_iload_n C dL_law_1213 rfl (q := 3) rfl ?_
  refine ev_iconst (v := 1) C dL_law_1214 (by decide) ?_
  refine ev_iadd C dL_law_1215 ?_
  obtain ⟨x1, e2, hf⟩ := obnd hf
  refine ev_sld HX C dL_law_1216 e2 ?_
  refine ev_aload_n C dL_law_1217 rfl (q := 0) rfl ?_
  refine ev_iload_n C dL_law_1218 rfl (q := 3) rfl ?_
  refine ev_iconst (v := 2) C dL_law_1219 (by decide) ?_
  refine ev_iadd C dL_law_1220 ?_
  obtain ⟨x3, e4, hf⟩ := obnd hf
  refine ev_sld HX C dL_law_1221 e4 ?_
  refine ev_aload_n C dL_law_1222 rfl (q := 0) rfl ?_
  refine ev_iload_n C dL_law_1223 rfl (q := 3) rfl ?_
  refine ev_iconst (v := 3) C dL_law_1224 (by decide) ?_
  refine ev_iadd C dL_law_1225 ?_
  obtain ⟨x5, e6, hf⟩ := obnd hf
  refine ev_sld HX C dL_law_1226 e6 ?_
  obtain ⟨_, e7, hf⟩ := obnd hf
  obtain ⟨fs8, e7⟩ := oO_eq e7
  obtain ⟨x9, e10, hf⟩ := obnd hf
  refine ev_callV0 (As := [.int x1, .int x3, .int x5]) (st := []) C rfl e7 (t_X11_spill e10) rfl hd_X11_spill rfl kw_667 kw_668 kw_70 kw_669 kw_670 (mRoomL E (Nat.le_of_ble_eq_true rfl) (Nat.le_of_ble_eq_true rfl) hk.1 hk.2) (Nat.le_of_ble_eq_true rfl) dL_law_1227 ?_
  refine ev_aload_n C dL_law_1230 rfl (q := 2) rfl ?_
  refine ev_aload_n C dL_law_1231 rfl (q := 0) rfl ?_
  refine ev_iload_n C dL_law_1232 rfl (q := 3) rfl ?_
  refine ev_iconst (v := 1) C dL_law_1233 (by decide) ?_
  refine ev_iadd C dL_law_1234 ?_
  obtain ⟨x11, e12, hf⟩ := obnd hf
  refine ev_sld HX C dL_law_1235 e12 ?_
  refine ev_aload_n C dL_law_1236 rfl (q := 0) rfl ?_
  refine ev_iload_n C dL_law_1237 rfl (q := 3) rfl ?_
  refine ev_iconst (v := 2) C dL_law_1238 (by decide) ?_
  refine ev_iadd C dL_law_1239 ?_
  obtain ⟨x13, e14, hf⟩ := obnd hf
  refine ev_sld HX C dL_law_1240 e14 ?_
  refine ev_aload_n C dL_law_1241 rfl (q := 0) rfl ?_
  refine ev_iload_n C dL_law_1242 rfl (q := 3) rfl ?_
  refine ev_iconst (v := 3) C dL_law_1243 (by decide) ?_
  refine ev_iadd C dL_law_1244 ?_
  obtain ⟨x15, e16, hf⟩ := obnd hf
  refine ev_sld HX C dL_law_1245 e16 ?_
  obtain ⟨_, e17, hf⟩ := obnd hf
  obtain ⟨fs18, e17⟩ := oO_eq e17
  obtain ⟨x19, e20, hf⟩ := obnd hf
  refine ev_callV0 (As := [.int x11, .int x13, .int x15]) (st := [.long x9.1]) C rfl e17 (t_X12_spill e20) rfl hd_X12_spill rfl kw_1454 kw_1455 kw_87 kw_1456 kw_1457 (mRoomL E (Nat.le_of_ble_eq_true rfl) (Nat.le_of_ble_eq_true rfl) hk.1 hk.2) (Nat.le_of_ble_eq_true rfl) dL_law_1246 ?_
  refine ev_lcmp C dL_law_1249 ?_
  refine ev_if_eq (tgt := 1748) C dL_law_1250 (by decide) (fun hc => ?_) (fun hc => ?_)
  · have hf := oit hf hc
    exact t_L_law_J1748 C E HX k18 Hk18 a1 a2 i3 x19.2 kc ks hk hf
  · have hf := oie hf hc
    refine ev_iconst (v := 0) C dL_law_1253 (by decide) ?_
    cases hf
def m_L_law_J1255 (sc : Nat → Int32) (L : Nat) (N : Nat) (mc ms : Nat) (k18 : Nat → Nat → Int32 → mM → Nat → Nat → Option (Unit)) (a1 : Nat) (a2 : Nat) (i3 : Int32) (M : mM) (kc ks : Nat) : Option (Unit) :=
  (sld sc L (i3 + 1)).bind fun x1 =>
  (sld sc L (i3 + 2)).bind fun x3 =>
  (oO M a1 11).bind fun _ =>
  (m_X11_hand a1 x1 x3 M).bind fun x7 =>
  (sld sc L (i3 + 1)).bind fun x9 =>
  (sld sc L (i3 + 2)).bind fun x11 =>
  (oO x7.2 a2 12).bind fun _ =>
  (m_X12_hand a2 x9 x11 x7.2).bind fun x15 =>
  if x7.1 = x15.1 then (
    m_L_law_J1748 sc L N mc ms k18 a1 a2 i3 x15.2 kc ks) else (
    none)
set_option maxHeartbeats 4000000 in
set_option maxRecDepth 100000 in
theorem t_L_law_J1255 {X : mX} {L0 : Launch} {nm : String} {res : Unit} {sc : Nat → Int32} {L : Nat} {N : Nat} {mc ms : Nat} (C : CX X RL nm code 4 (some .boolean)) (E : EXL X L0 mc ms) (HX : HXP X L sc) (k18 : Nat → Nat → Int32 → mM → Nat → Nat → Option (Unit)) (Hk18 : ∀ (a1 : Nat) (a2 : Nat) (i3 : Int32) (M : mM) (kc ks : Nat) (hk : kc ≤ mc ∧ ks ≤ ms), k18 a1 a2 i3 M kc ks = some res → EV X 4 18 [(0, .ref 9), (1, .ref a1), (2, .ref a2), (3, .int i3)] [] kc ks M) (a1 : Nat) (a2 : Nat) (i3 : Int32) (M : mM) (kc ks : Nat) (hk : kc ≤ mc ∧ ks ≤ ms) (hf : m_L_law_J1255 sc L N mc ms k18 a1 a2 i3 M kc ks = some res) : EV X 4 1255 [(0, .ref 9), (1, .ref a1), (2, .ref a2), (3, .int i3)] [] kc ks M := by
  unfold m_L_law_J1255 at hf
  refine ev_aload_n C dL_law_1255 rfl (q := 1) rfl ?_
  refine ev_aload_n C dL_law_1256 rfl (q := 0) rfl ?_
  refine ev_iload_n C dL_law_1257 rfl (q := 3) rfl ?_
  refine ev_iconst (v := 1) C dL_law_1258 (by decide) ?_
  refine ev_iadd C dL_law_1259 ?_
  obtain ⟨x1, e2, hf⟩ := obnd hf
  refine ev_sld HX C dL_law_1260 e2 ?_
  refine ev_aload_n C dL_law_1261 rfl (q := 0) rfl ?_
  refine ev_iload_n C dL_law_1262 rfl (q := 3) rfl ?_
  refine ev_iconst (v := 2) C dL_law_1263 (by decide) ?_
  refine ev_iadd C dL_law_1264 ?_
  obtain ⟨x3, e4, hf⟩ := obnd hf
  refine ev_sld HX C dL_law_1265 e4 ?_
  obtain ⟨_, e5, hf⟩ := obnd hf
  obtain ⟨fs6, e5⟩ := oO_eq e5
  obtain ⟨x7, e8, hf⟩ := obnd hf
  refine ev_callV0 (As := [.int x1, .int x3]) (st := []) C rfl e5 (t_X11_hand e8) rfl hd_X11_hand rfl kw_473 kw_474 kw_70 kw_475 kw_476 (mRoomL E (Nat.le_of_ble_eq_true rfl) (Nat.le_of_ble_eq_true rfl) hk.1 hk.2) (Nat.le_of_ble_eq_true rfl) dL_law_1266 ?_
  refine ev_aload_n C dL_law_1269 rfl (q := 2) rfl ?_
  refine ev_aload_n C dL_law_1270 rfl (q := 0) rfl ?_
  refine ev_iload_n C dL_law_1271 rfl (q := 3) rfl ?_
  refine ev_iconst (v := 1) C dL_law_1272 (by decide) ?_
  refine ev_iadd C dL_law_1273 ?_
  obtain ⟨x9, e10, hf⟩ := obnd hf
  refine ev_sld HX C dL_law_1274 e10 ?_
  refine ev_aload_n C dL_law_1275 rfl (q := 0) rfl ?_
  refine ev_iload_n C dL_law_1276 rfl (q := 3) rfl ?_
  refine ev_iconst (v := 2) C dL_law_1277 (by decide) ?_
  refine ev_iadd C dL_law_1278 ?_
  obtain ⟨x11, e12, hf⟩ := obnd hf
  refine ev_sld HX C dL_law_1279 e12 ?_
  obtain ⟨_, e13, hf⟩ := obnd hf
  obtain ⟨fs14, e13⟩ := oO_eq e13
  obtain ⟨x15, e16, hf⟩ := obnd hf
  refine ev_callV0 (As := [.int x9, .int x11]) (st := [.int x7.1]) C rfl e13 (t_X12_hand e16) rfl hd_X12_hand rfl kw_1458 kw_1459 kw_87 kw_1460 kw_1461 (mRoomL E (Nat.le_of_ble_eq_true rfl) (Nat.le_of_ble_eq_true rfl) hk.1 hk.2) (Nat.le_of_ble_eq_true rfl) dL_law_1280 ?_
  refine ev_icmp_eq (tgt := 1748) C dL_law_1283 (by decide) (fun hc => ?_) (fun hc => ?_)
  · have hf := oit hf hc
    exact t_L_law_J1748 C E HX k18 Hk18 a1 a2 i3 x15.2 kc ks hk hf
  · have hf := oie hf hc
    refine ev_iconst (v := 0) C dL_law_1286 (by decide) ?_
    cases hf
def m_L_law_J1288 (sc : Nat → Int32) (L : Nat) (N : Nat) (mc ms : Nat) (k18 : Nat → Nat → Int32 → mM → Nat → Nat → Option (Unit)) (a1 : Nat) (a2 : Nat) (i3 : Int32) (M : mM) (kc ks : Nat) : Option (Unit) :=
  (sld sc L (i3 + 1)).bind fun x1 =>
  (oO M a1 11).bind fun _ =>
  (m_X11_byHand N a1 x1 M).bind fun x5 =>
  (sld sc L (i3 + 1)).bind fun x7 =>
  (oO x5.2 a2 12).bind fun _ =>
  (m_X12_byHand N a2 x7 x5.2).bind fun x11 =>
  if x5.1 = x11.1 then (
    m_L_law_J1748 sc L N mc ms k18 a1 a2 i3 x11.2 kc ks) else (
    none)
set_option maxHeartbeats 4000000 in
set_option maxRecDepth 100000 in
theorem t_L_law_J1288 {X : mX} {L0 : Launch} {nm : String} {res : Unit} {sc : Nat → Int32} {L : Nat} {N : Nat} {mc ms : Nat} (C : CX X RL nm code 4 (some .boolean)) (E : EXL X L0 mc ms) (HX : HXP X L sc) (k18 : Nat → Nat → Int32 → mM → Nat → Nat → Option (Unit)) (Hk18 : ∀ (a1 : Nat) (a2 : Nat) (i3 : Int32) (M : mM) (kc ks : Nat) (hk : kc ≤ mc ∧ ks ≤ ms), k18 a1 a2 i3 M kc ks = some res → EV X 4 18 [(0, .ref 9), (1, .ref a1), (2, .ref a2), (3, .int i3)] [] kc ks M) (a1 : Nat) (a2 : Nat) (i3 : Int32) (M : mM) (kc ks : Nat) (hk : kc ≤ mc ∧ ks ≤ ms) (hf : m_L_law_J1288 sc L N mc ms k18 a1 a2 i3 M kc ks = some res) : EV X 4 1288 [(0, .ref 9), (1, .ref a1), (2, .ref a2), (3, .int i3)] [] kc ks M := by
  unfold m_L_law_J1288 at hf
  refine ev_aload_n C dL_law_1288 rfl (q := 1) rfl ?_
  refine ev_aload_n C dL_law_1289 rfl (q := 0) rfl ?_
  refine ev_iload_n C dL_law_1290 rfl (q := 3) rfl ?_
  refine ev_iconst (v := 1) C dL_law_1291 (by decide) ?_
  refine ev_iadd C dL_law_1292 ?_
  obtain ⟨x1, e2, hf⟩ := obnd hf
  refine ev_sld HX C dL_law_1293 e2 ?_
  obtain ⟨_, e3, hf⟩ := obnd hf
  obtain ⟨fs4, e3⟩ := oO_eq e3
  obtain ⟨x5, e6, hf⟩ := obnd hf
  refine ev_callV0 (As := [.int x1]) (st := []) C rfl e3 (t_X11_byHand e6) rfl hd_X11_byHand rfl kw_1045 kw_1046 kw_70 kw_1047 kw_1048 (mRoomL E (Nat.le_of_ble_eq_true rfl) (Nat.le_of_ble_eq_true rfl) hk.1 hk.2) (Nat.le_of_ble_eq_true rfl) dL_law_1294 ?_
  refine ev_aload_n C dL_law_1297 rfl (q := 2) rfl ?_
  refine ev_aload_n C dL_law_1298 rfl (q := 0) rfl ?_
  refine ev_iload_n C dL_law_1299 rfl (q := 3) rfl ?_
  refine ev_iconst (v := 1) C dL_law_1300 (by decide) ?_
  refine ev_iadd C dL_law_1301 ?_
  obtain ⟨x7, e8, hf⟩ := obnd hf
  refine ev_sld HX C dL_law_1302 e8 ?_
  obtain ⟨_, e9, hf⟩ := obnd hf
  obtain ⟨fs10, e9⟩ := oO_eq e9
  obtain ⟨x11, e12, hf⟩ := obnd hf
  refine ev_callV0 (As := [.int x7]) (st := [.int x5.1]) C rfl e9 (t_X12_byHand e12) rfl hd_X12_byHand rfl kw_1616 kw_1617 kw_87 kw_1618 kw_1619 (mRoomL E (Nat.le_of_ble_eq_true rfl) (Nat.le_of_ble_eq_true rfl) hk.1 hk.2) (Nat.le_of_ble_eq_true rfl) dL_law_1303 ?_
  refine ev_icmp_eq (tgt := 1748) C dL_law_1306 (by decide) (fun hc => ?_) (fun hc => ?_)
  · have hf := oit hf hc
    exact t_L_law_J1748 C E HX k18 Hk18 a1 a2 i3 x11.2 kc ks hk hf
  · have hf := oie hf hc
    refine ev_iconst (v := 0) C dL_law_1309 (by decide) ?_
    cases hf
def m_L_law_J1311 (sc : Nat → Int32) (L : Nat) (N : Nat) (mc ms : Nat) (k18 : Nat → Nat → Int32 → mM → Nat → Nat → Option (Unit)) (a1 : Nat) (a2 : Nat) (i3 : Int32) (M : mM) (kc ks : Nat) : Option (Unit) :=
  (sld sc L (i3 + 1)).bind fun x1 =>
  (sld sc L (i3 + 2)).bind fun x3 =>
  (sld sc L (i3 + 3)).bind fun x5 =>
  (sld sc L (i3 + 4)).bind fun x7 =>
  (oO M a1 11).bind fun _ =>
  (m_X11_drawn N a1 x1 x3 x5 x7 M).bind fun x11 =>
  (sld sc L (i3 + 1)).bind fun x13 =>
  (sld sc L (i3 + 2)).bind fun x15 =>
  (sld sc L (i3 + 3)).bind fun x17 =>
  (sld sc L (i3 + 4)).bind fun x19 =>
  (oO x11.2 a2 12).bind fun _ =>
  (m_X12_drawn N a2 x13 x15 x17 x19 x11.2).bind fun x23 =>
  if x11.1 = x23.1 then (
    m_L_law_J1748 sc L N mc ms k18 a1 a2 i3 x23.2 kc ks) else (
    none)
set_option maxHeartbeats 4000000 in
set_option maxRecDepth 100000 in
theorem t_L_law_J1311 {X : mX} {L0 : Launch} {nm : String} {res : Unit} {sc : Nat → Int32} {L : Nat} {N : Nat} {mc ms : Nat} (C : CX X RL nm code 4 (some .boolean)) (E : EXL X L0 mc ms) (HX : HXP X L sc) (k18 : Nat → Nat → Int32 → mM → Nat → Nat → Option (Unit)) (Hk18 : ∀ (a1 : Nat) (a2 : Nat) (i3 : Int32) (M : mM) (kc ks : Nat) (hk : kc ≤ mc ∧ ks ≤ ms), k18 a1 a2 i3 M kc ks = some res → EV X 4 18 [(0, .ref 9), (1, .ref a1), (2, .ref a2), (3, .int i3)] [] kc ks M) (a1 : Nat) (a2 : Nat) (i3 : Int32) (M : mM) (kc ks : Nat) (hk : kc ≤ mc ∧ ks ≤ ms) (hf : m_L_law_J1311 sc L N mc ms k18 a1 a2 i3 M kc ks = some res) : EV X 4 1311 [(0, .ref 9), (1, .ref a1), (2, .ref a2), (3, .int i3)] [] kc ks M := by
  unfold m_L_law_J1311 at hf
  refine ev_aload_n C dL_law_1311 rfl (q := 1) rfl ?_
  refine ev_aload_n C dL_law_1312 rfl (q := 0) rfl ?_
  refine ev_iload_n C dL_law_1313 rfl (q := 3) rfl ?_
  refine ev_iconst (v := 1) C dL_law_1314 (by decide) ?_
  refine ev_iadd C dL_law_1315 ?_
  obtain ⟨x1, e2, hf⟩ := obnd hf
  refine ev_sld HX C dL_law_1316 e2 ?_
  refine ev_aload_n C dL_law_1317 rfl (q := 0) rfl ?_
  refine ev_iload_n C dL_law_1318 rfl (q := 3) rfl ?_
  refine ev_iconst (v := 2) C dL_law_1319 (by decide) ?_
  refine ev_iadd C dL_law_1320 ?_
  obtain ⟨x3, e4, hf⟩ := obnd hf
  refine ev_sld HX C dL_law_1321 e4 ?_
  refine ev_aload_n C dL_law_1322 rfl (q := 0) rfl ?_
  refine ev_iload_n C dL_law_1323 rfl (q := 3) rfl ?_
  refine ev_iconst (v := 3) C dL_law_1324 (by decide) ?_
  refine ev_iadd C dL_law_1325 ?_
  obtain ⟨x5, e6, hf⟩ := obnd hf
  refine ev_sld HX C dL_law_1326 e6 ?_
  refine ev_aload_n C dL_law_1327 rfl (q := 0) rfl ?_
  refine ev_iload_n C dL_law_1328 rfl (q := 3) rfl ?_
  refine ev_iconst (v := 4) C dL_law_1329 (by decide) ?_
  refine ev_iadd C dL_law_1330 ?_
  obtain ⟨x7, e8, hf⟩ := obnd hf
  refine ev_sld HX C dL_law_1331 e8 ?_
  obtain ⟨_, e9, hf⟩ := obnd hf
  obtain ⟨fs10, e9⟩ := oO_eq e9
  obtain ⟨x11, e12, hf⟩ := obnd hf
  refine ev_callV0 (As := [.int x1, .int x3, .int x5, .int x7]) (st := []) C rfl e9 (t_X11_drawn e12) rfl hd_X11_drawn rfl kw_1049 kw_1050 kw_70 kw_1051 kw_1052 (mRoomL E (Nat.le_of_ble_eq_true rfl) (Nat.le_of_ble_eq_true rfl) hk.1 hk.2) (Nat.le_of_ble_eq_true rfl) dL_law_1332 ?_
  refine ev_aload_n C dL_law_1335 rfl (q := 2) rfl ?_
  refine ev_aload_n C dL_law_1336 rfl (q := 0) rfl ?_
  refine ev_iload_n C dL_law_1337 rfl (q := 3) rfl ?_
  refine ev_iconst (v := 1) C dL_law_1338 (by decide) ?_
  refine ev_iadd C dL_law_1339 ?_
  obtain ⟨x13, e14, hf⟩ := obnd hf
  refine ev_sld HX C dL_law_1340 e14 ?_
  refine ev_aload_n C dL_law_1341 rfl (q := 0) rfl ?_
  refine ev_iload_n C dL_law_1342 rfl (q := 3) rfl ?_
  refine ev_iconst (v := 2) C dL_law_1343 (by decide) ?_
  refine ev_iadd C dL_law_1344 ?_
  obtain ⟨x15, e16, hf⟩ := obnd hf
  refine ev_sld HX C dL_law_1345 e16 ?_
  refine ev_aload_n C dL_law_1346 rfl (q := 0) rfl ?_
  refine ev_iload_n C dL_law_1347 rfl (q := 3) rfl ?_
  refine ev_iconst (v := 3) C dL_law_1348 (by decide) ?_
  refine ev_iadd C dL_law_1349 ?_
  obtain ⟨x17, e18, hf⟩ := obnd hf
  refine ev_sld HX C dL_law_1350 e18 ?_
  refine ev_aload_n C dL_law_1351 rfl (q := 0) rfl ?_
  refine ev_iload_n C dL_law_1352 rfl (q := 3) rfl ?_
  refine ev_iconst (v := 4) C dL_law_1353 (by decide) ?_
  refine ev_iadd C dL_law_1354 ?_
  obtain ⟨x19, e20, hf⟩ := obnd hf
  refine ev_sld HX C dL_law_1355 e20 ?_
  obtain ⟨_, e21, hf⟩ := obnd hf
  obtain ⟨fs22, e21⟩ := oO_eq e21
  obtain ⟨x23, e24, hf⟩ := obnd hf
  refine ev_callV0 (As := [.int x13, .int x15, .int x17, .int x19]) (st := [.int x11.1]) C rfl e21 (t_X12_drawn e24) rfl hd_X12_drawn rfl kw_1466 kw_1467 kw_87 kw_1468 kw_1469 (mRoomL E (Nat.le_of_ble_eq_true rfl) (Nat.le_of_ble_eq_true rfl) hk.1 hk.2) (Nat.le_of_ble_eq_true rfl) dL_law_1356 ?_
  refine ev_icmp_eq (tgt := 1748) C dL_law_1359 (by decide) (fun hc => ?_) (fun hc => ?_)
  · have hf := oit hf hc
    exact t_L_law_J1748 C E HX k18 Hk18 a1 a2 i3 x23.2 kc ks hk hf
  · have hf := oie hf hc
    refine ev_iconst (v := 0) C dL_law_1362 (by decide) ?_
    cases hf
def m_L_law_J1364 (sc : Nat → Int32) (L : Nat) (N : Nat) (mc ms : Nat) (k18 : Nat → Nat → Int32 → mM → Nat → Nat → Option (Unit)) (a1 : Nat) (a2 : Nat) (i3 : Int32) (M : mM) (kc ks : Nat) : Option (Unit) :=
  (sld sc L (i3 + 1)).bind fun x1 =>
  (oO M a1 11).bind fun _ =>
  (m_X11_seed a1 x1 M).bind fun x5 =>
  (sld sc L (i3 + 1)).bind fun x7 =>
  (oO x5.2 a2 12).bind fun _ =>
  (m_X12_seed a2 x7 x5.2).bind fun x11 =>
  if x5.1 = x11.1 then (
    m_L_law_J1748 sc L N mc ms k18 a1 a2 i3 x11.2 kc ks) else (
    none)
set_option maxHeartbeats 4000000 in
set_option maxRecDepth 100000 in
theorem t_L_law_J1364 {X : mX} {L0 : Launch} {nm : String} {res : Unit} {sc : Nat → Int32} {L : Nat} {N : Nat} {mc ms : Nat} (C : CX X RL nm code 4 (some .boolean)) (E : EXL X L0 mc ms) (HX : HXP X L sc) (k18 : Nat → Nat → Int32 → mM → Nat → Nat → Option (Unit)) (Hk18 : ∀ (a1 : Nat) (a2 : Nat) (i3 : Int32) (M : mM) (kc ks : Nat) (hk : kc ≤ mc ∧ ks ≤ ms), k18 a1 a2 i3 M kc ks = some res → EV X 4 18 [(0, .ref 9), (1, .ref a1), (2, .ref a2), (3, .int i3)] [] kc ks M) (a1 : Nat) (a2 : Nat) (i3 : Int32) (M : mM) (kc ks : Nat) (hk : kc ≤ mc ∧ ks ≤ ms) (hf : m_L_law_J1364 sc L N mc ms k18 a1 a2 i3 M kc ks = some res) : EV X 4 1364 [(0, .ref 9), (1, .ref a1), (2, .ref a2), (3, .int i3)] [] kc ks M := by
  unfold m_L_law_J1364 at hf
  refine ev_aload_n C dL_law_1364 rfl (q := 1) rfl ?_
  refine ev_aload_n C dL_law_1365 rfl (q := 0) rfl ?_
  refine ev_iload_n C dL_law_1366 rfl (q := 3) rfl ?_
  refine ev_iconst (v := 1) C dL_law_1367 (by decide) ?_
  refine ev_iadd C dL_law_1368 ?_
  obtain ⟨x1, e2, hf⟩ := obnd hf
  refine ev_sld HX C dL_law_1369 e2 ?_
  obtain ⟨_, e3, hf⟩ := obnd hf
  obtain ⟨fs4, e3⟩ := oO_eq e3
  obtain ⟨x5, e6, hf⟩ := obnd hf
  refine ev_callV0 (As := [.int x1]) (st := []) C rfl e3 (t_X11_seed e6) rfl hd_X11_seed rfl kw_1065 kw_1066 kw_70 kw_1067 kw_1068 (mRoomL E (Nat.le_of_ble_eq_true rfl) (Nat.le_of_ble_eq_true rfl) hk.1 hk.2) (Nat.le_of_ble_eq_true rfl) dL_law_1370 ?_
  refine ev_aload_n C dL_law_1373 rfl (q := 2) rfl ?_
  refine ev_aload_n C dL_law_1374 rfl (q := 0) rfl ?_
  refine ev_iload_n C dL_law_1375 rfl (q := 3) rfl ?_
  refine ev_iconst (v := 1) C dL_law_1376 (by decide) ?_
  refine ev_iadd C dL_law_1377 ?_
  obtain ⟨x7, e8, hf⟩ := obnd hf
  refine ev_sld HX C dL_law_1378 e8 ?_
  obtain ⟨_, e9, hf⟩ := obnd hf
  obtain ⟨fs10, e9⟩ := oO_eq e9
  obtain ⟨x11, e12, hf⟩ := obnd hf
  refine ev_callV0 (As := [.int x7]) (st := [.int x5.1]) C rfl e9 (t_X12_seed e12) rfl hd_X12_seed rfl kw_1462 kw_1463 kw_87 kw_1464 kw_1465 (mRoomL E (Nat.le_of_ble_eq_true rfl) (Nat.le_of_ble_eq_true rfl) hk.1 hk.2) (Nat.le_of_ble_eq_true rfl) dL_law_1379 ?_
  refine ev_icmp_eq (tgt := 1748) C dL_law_1382 (by decide) (fun hc => ?_) (fun hc => ?_)
  · have hf := oit hf hc
    exact t_L_law_J1748 C E HX k18 Hk18 a1 a2 i3 x11.2 kc ks hk hf
  · have hf := oie hf hc
    refine ev_iconst (v := 0) C dL_law_1385 (by decide) ?_
    cases hf
def m_L_law_J1387 (sc : Nat → Int32) (L : Nat) (N : Nat) (mc ms : Nat) (k18 : Nat → Nat → Int32 → mM → Nat → Nat → Option (Unit)) (a1 : Nat) (a2 : Nat) (i3 : Int32) (M : mM) (kc ks : Nat) : Option (Unit) :=
  (sld sc L (i3 + 1)).bind fun x1 =>
  (sld sc L (i3 + 2)).bind fun x3 =>
  (sld sc L (i3 + 3)).bind fun x5 =>
  (oO M a1 11).bind fun _ =>
  (m_X11_tray N a1 x1 x3 x5 M).bind fun x9 =>
  (sld sc L (i3 + 1)).bind fun x11 =>
  (sld sc L (i3 + 2)).bind fun x13 =>
  (sld sc L (i3 + 3)).bind fun x15 =>
  (oO x9.2 a2 12).bind fun _ =>
  (m_X12_tray N a2 x11 x13 x15 x9.2).bind fun x19 =>
  if x9.1 = x19.1 then (
    m_L_law_J1748 sc L N mc ms k18 a1 a2 i3 x19.2 kc ks) else (
    none)
set_option maxHeartbeats 4000000 in
set_option maxRecDepth 100000 in
theorem t_L_law_J1387 {X : mX} {L0 : Launch} {nm : String} {res : Unit} {sc : Nat → Int32} {L : Nat} {N : Nat} {mc ms : Nat} (C : CX X RL nm code 4 (some .boolean)) (E : EXL X L0 mc ms) (HX : HXP X L sc) (k18 : Nat → Nat → Int32 → mM → Nat → Nat → Option (Unit)) (Hk18 : ∀ (a1 : Nat) (a2 : Nat) (i3 : Int32) (M : mM) (kc ks : Nat) (hk : kc ≤ mc ∧ ks ≤ ms), k18 a1 a2 i3 M kc ks = some res → EV X 4 18 [(0, .ref 9), (1, .ref a1), (2, .ref a2), (3, .int i3)] [] kc ks M) (a1 : Nat) (a2 : Nat) (i3 : Int32) (M : mM) (kc ks : Nat) (hk : kc ≤ mc ∧ ks ≤ ms) (hf : m_L_law_J1387 sc L N mc ms k18 a1 a2 i3 M kc ks = some res) : EV X 4 1387 [(0, .ref 9), (1, .ref a1), (2, .ref a2), (3, .int i3)] [] kc ks M := by
  unfold m_L_law_J1387 at hf
  refine ev_aload_n C dL_law_1387 rfl (q := 1) rfl ?_
  refine ev_aload_n C dL_law_1388 rfl (q := 0) rfl ?_
  refine ev_iload_n C dL_law_1389 rfl (q := 3) rfl ?_
  refine ev_iconst (v := 1) C dL_law_1390 (by decide) ?_
  refine ev_iadd C dL_law_1391 ?_
  obtain ⟨x1, e2, hf⟩ := obnd hf
  refine ev_sld HX C dL_law_1392 e2 ?_
  refine ev_aload_n C dL_law_1393 rfl (q := 0) rfl ?_
  refine ev_iload_n C dL_law_1394 rfl (q := 3) rfl ?_
  refine ev_iconst (v := 2) C dL_law_1395 (by decide) ?_
  refine ev_iadd C dL_law_1396 ?_
  obtain ⟨x3, e4, hf⟩ := obnd hf
  refine ev_sld HX C dL_law_1397 e4 ?_
  refine ev_aload_n C dL_law_1398 rfl (q := 0) rfl ?_
  refine ev_iload_n C dL_law_1399 rfl (q := 3) rfl ?_
  refine ev_iconst (v := 3) C dL_law_1400 (by decide) ?_
  refine ev_iadd C dL_law_1401 ?_
  obtain ⟨x5, e6, hf⟩ := obnd hf
  refine ev_sld HX C dL_law_1402 e6 ?_
  obtain ⟨_, e7, hf⟩ := obnd hf
  obtain ⟨fs8, e7⟩ := oO_eq e7
  obtain ⟨x9, e10, hf⟩ := obnd hf
  refine ev_callV0 (As := [.int x1, .int x3, .int x5]) (st := []) C rfl e7 (t_X11_tray e10) rfl hd_X11_tray rfl kw_1069 kw_1070 kw_70 kw_1071 kw_1072 (mRoomL E (Nat.le_of_ble_eq_true rfl) (Nat.le_of_ble_eq_true rfl) hk.1 hk.2) (Nat.le_of_ble_eq_true rfl) dL_law_1403 ?_
  refine ev_aload_n C dL_law_1406 rfl (q := 2) rfl ?_
  refine ev_aload_n C dL_law_1407 rfl (q := 0) rfl ?_
  refine ev_iload_n C dL_law_1408 rfl (q := 3) rfl ?_
  refine ev_iconst (v := 1) C dL_law_1409 (by decide) ?_
  refine ev_iadd C dL_law_1410 ?_
  obtain ⟨x11, e12, hf⟩ := obnd hf
  refine ev_sld HX C dL_law_1411 e12 ?_
  refine ev_aload_n C dL_law_1412 rfl (q := 0) rfl ?_
  refine ev_iload_n C dL_law_1413 rfl (q := 3) rfl ?_
  refine ev_iconst (v := 2) C dL_law_1414 (by decide) ?_
  refine ev_iadd C dL_law_1415 ?_
  obtain ⟨x13, e14, hf⟩ := obnd hf
  refine ev_sld HX C dL_law_1416 e14 ?_
  refine ev_aload_n C dL_law_1417 rfl (q := 0) rfl ?_
  refine ev_iload_n C dL_law_1418 rfl (q := 3) rfl ?_
  refine ev_iconst (v := 3) C dL_law_1419 (by decide) ?_
  refine ev_iadd C dL_law_1420 ?_
  obtain ⟨x15, e16, hf⟩ := obnd hf
  refine ev_sld HX C dL_law_1421 e16 ?_
  obtain ⟨_, e17, hf⟩ := obnd hf
  obtain ⟨fs18, e17⟩ := oO_eq e17
  obtain ⟨x19, e20, hf⟩ := obnd hf
  refine ev_callV0 (As := [.int x11, .int x13, .int x15]) (st := [.int x9.1]) C rfl e17 (t_X12_tray e20) rfl hd_X12_tray rfl kw_1652 kw_1653 kw_87 kw_1654 kw_1655 (mRoomL E (Nat.le_of_ble_eq_true rfl) (Nat.le_of_ble_eq_true rfl) hk.1 hk.2) (Nat.le_of_ble_eq_true rfl) dL_law_1422 ?_
  refine ev_icmp_eq (tgt := 1748) C dL_law_1425 (by decide) (fun hc => ?_) (fun hc => ?_)
  · have hf := oit hf hc
    exact t_L_law_J1748 C E HX k18 Hk18 a1 a2 i3 x19.2 kc ks hk hf
  · have hf := oie hf hc
    refine ev_iconst (v := 0) C dL_law_1428 (by decide) ?_
    cases hf
def m_L_law_J1430 (sc : Nat → Int32) (L : Nat) (N : Nat) (mc ms : Nat) (k18 : Nat → Nat → Int32 → mM → Nat → Nat → Option (Unit)) (a1 : Nat) (a2 : Nat) (i3 : Int32) (M : mM) (kc ks : Nat) : Option (Unit) :=
  (sld sc L (i3 + 1)).bind fun x1 =>
  (sld sc L (i3 + 2)).bind fun x3 =>
  (sld sc L (i3 + 3)).bind fun x5 =>
  (oO M a1 11).bind fun _ =>
  (m_X11_lays N a1 x1 x3 x5 M).bind fun x9 =>
  (sld sc L (i3 + 1)).bind fun x11 =>
  (sld sc L (i3 + 2)).bind fun x13 =>
  (sld sc L (i3 + 3)).bind fun x15 =>
  (oO x9.2 a2 12).bind fun _ =>
  (m_X12_lays a2 x11 x13 x15 x9.2).bind fun x19 =>
  if x9.1 = x19.1 then (
    m_L_law_J1748 sc L N mc ms k18 a1 a2 i3 x19.2 kc ks) else (
    none)
set_option maxHeartbeats 4000000 in
set_option maxRecDepth 100000 in
theorem t_L_law_J1430 {X : mX} {L0 : Launch} {nm : String} {res : Unit} {sc : Nat → Int32} {L : Nat} {N : Nat} {mc ms : Nat} (C : CX X RL nm code 4 (some .boolean)) (E : EXL X L0 mc ms) (HX : HXP X L sc) (k18 : Nat → Nat → Int32 → mM → Nat → Nat → Option (Unit)) (Hk18 : ∀ (a1 : Nat) (a2 : Nat) (i3 : Int32) (M : mM) (kc ks : Nat) (hk : kc ≤ mc ∧ ks ≤ ms), k18 a1 a2 i3 M kc ks = some res → EV X 4 18 [(0, .ref 9), (1, .ref a1), (2, .ref a2), (3, .int i3)] [] kc ks M) (a1 : Nat) (a2 : Nat) (i3 : Int32) (M : mM) (kc ks : Nat) (hk : kc ≤ mc ∧ ks ≤ ms) (hf : m_L_law_J1430 sc L N mc ms k18 a1 a2 i3 M kc ks = some res) : EV X 4 1430 [(0, .ref 9), (1, .ref a1), (2, .ref a2), (3, .int i3)] [] kc ks M := by
  unfold m_L_law_J1430 at hf
  refine ev_aload_n C dL_law_1430 rfl (q := 1) rfl ?_
  refine ev_aload_n C dL_law_1431 rfl (q := 0) rfl ?_
  refine ev_iload_n C dL_law_1432 rfl (q := 3) rfl ?_
  refine ev_iconst (v := 1) C dL_law_1433 (by decide) ?_
  refine ev_iadd C dL_law_1434 ?_
  obtain ⟨x1, e2, hf⟩ := obnd hf
  refine ev_sld HX C dL_law_1435 e2 ?_
  refine ev_aload_n C dL_law_1436 rfl (q := 0) rfl ?_
  refine ev_iload_n C dL_law_1437 rfl (q := 3) rfl ?_
  refine ev_iconst (v := 2) C dL_law_1438 (by decide) ?_
  refine ev_iadd C dL_law_1439 ?_
  obtain ⟨x3, e4, hf⟩ := obnd hf
  refine ev_sld HX C dL_law_1440 e4 ?_
  refine ev_aload_n C dL_law_1441 rfl (q := 0) rfl ?_
  refine ev_iload_n C dL_law_1442 rfl (q := 3) rfl ?_
  refine ev_iconst (v := 3) C dL_law_1443 (by decide) ?_
  refine ev_iadd C dL_law_1444 ?_
  obtain ⟨x5, e6, hf⟩ := obnd hf
  refine ev_sld HX C dL_law_1445 e6 ?_
  obtain ⟨_, e7, hf⟩ := obnd hf
  obtain ⟨fs8, e7⟩ := oO_eq e7
  obtain ⟨x9, e10, hf⟩ := obnd hf
  refine ev_callV0 (As := [.int x1, .int x3, .int x5]) (st := []) C rfl e7 (t_X11_lays e10) rfl hd_X11_lays rfl kw_1078 kw_1079 kw_70 kw_1080 kw_1081 (mRoomL E (Nat.le_of_ble_eq_true rfl) (Nat.le_of_ble_eq_true rfl) hk.1 hk.2) (Nat.le_of_ble_eq_true rfl) dL_law_1446 ?_
  refine ev_aload_n C dL_law_1449 rfl (q := 2) rfl ?_
  refine ev_aload_n C dL_law_1450 rfl (q := 0) rfl ?_
  refine ev_iload_n C dL_law_1451 rfl (q := 3) rfl ?_
  refine ev_iconst (v := 1) C dL_law_1452 (by decide) ?_
  refine ev_iadd C dL_law_1453 ?_
  obtain ⟨x11, e12, hf⟩ := obnd hf
  refine ev_sld HX C dL_law_1454 e12 ?_
  refine ev_aload_n C dL_law_1455 rfl (q := 0) rfl ?_
  refine ev_iload_n C dL_law_1456 rfl (q := 3) rfl ?_
  refine ev_iconst (v := 2) C dL_law_1457 (by decide) ?_
  refine ev_iadd C dL_law_1458 ?_
  obtain ⟨x13, e14, hf⟩ := obnd hf
  refine ev_sld HX C dL_law_1459 e14 ?_
  refine ev_aload_n C dL_law_1460 rfl (q := 0) rfl ?_
  refine ev_iload_n C dL_law_1461 rfl (q := 3) rfl ?_
  refine ev_iconst (v := 3) C dL_law_1462 (by decide) ?_
  refine ev_iadd C dL_law_1463 ?_
  obtain ⟨x15, e16, hf⟩ := obnd hf
  refine ev_sld HX C dL_law_1464 e16 ?_
  obtain ⟨_, e17, hf⟩ := obnd hf
  obtain ⟨fs18, e17⟩ := oO_eq e17
  obtain ⟨x19, e20, hf⟩ := obnd hf
  refine ev_callV0 (As := [.int x11, .int x13, .int x15]) (st := [.int x9.1]) C rfl e17 (t_X12_lays e20) rfl hd_X12_lays rfl kw_1659 kw_1660 kw_87 kw_1661 kw_1662 (mRoomL E (Nat.le_of_ble_eq_true rfl) (Nat.le_of_ble_eq_true rfl) hk.1 hk.2) (Nat.le_of_ble_eq_true rfl) dL_law_1465 ?_
  refine ev_icmp_eq (tgt := 1748) C dL_law_1468 (by decide) (fun hc => ?_) (fun hc => ?_)
  · have hf := oit hf hc
    exact t_L_law_J1748 C E HX k18 Hk18 a1 a2 i3 x19.2 kc ks hk hf
  · have hf := oie hf hc
    refine ev_iconst (v := 0) C dL_law_1471 (by decide) ?_
    cases hf
def m_L_law_J1473 (sc : Nat → Int32) (L : Nat) (N : Nat) (mc ms : Nat) (k18 : Nat → Nat → Int32 → mM → Nat → Nat → Option (Unit)) (a1 : Nat) (a2 : Nat) (i3 : Int32) (M : mM) (kc ks : Nat) : Option (Unit) :=
  (sld sc L (i3 + 1)).bind fun x1 =>
  (sld sc L (i3 + 2)).bind fun x3 =>
  (oO M a1 11).bind fun _ =>
  (m_X11_laid a1 x1 x3 M).bind fun x7 =>
  (sld sc L (i3 + 1)).bind fun x9 =>
  (sld sc L (i3 + 2)).bind fun x11 =>
  (oO M a2 12).bind fun _ =>
  (m_X12_laid a2 x9 x11 M).bind fun x15 =>
  if x7 = x15 then (
    m_L_law_J1748 sc L N mc ms k18 a1 a2 i3 M kc ks) else (
    none)
set_option maxHeartbeats 4000000 in
set_option maxRecDepth 100000 in
theorem t_L_law_J1473 {X : mX} {L0 : Launch} {nm : String} {res : Unit} {sc : Nat → Int32} {L : Nat} {N : Nat} {mc ms : Nat} (C : CX X RL nm code 4 (some .boolean)) (E : EXL X L0 mc ms) (HX : HXP X L sc) (k18 : Nat → Nat → Int32 → mM → Nat → Nat → Option (Unit)) (Hk18 : ∀ (a1 : Nat) (a2 : Nat) (i3 : Int32) (M : mM) (kc ks : Nat) (hk : kc ≤ mc ∧ ks ≤ ms), k18 a1 a2 i3 M kc ks = some res → EV X 4 18 [(0, .ref 9), (1, .ref a1), (2, .ref a2), (3, .int i3)] [] kc ks M) (a1 : Nat) (a2 : Nat) (i3 : Int32) (M : mM) (kc ks : Nat) (hk : kc ≤ mc ∧ ks ≤ ms) (hf : m_L_law_J1473 sc L N mc ms k18 a1 a2 i3 M kc ks = some res) : EV X 4 1473 [(0, .ref 9), (1, .ref a1), (2, .ref a2), (3, .int i3)] [] kc ks M := by
  unfold m_L_law_J1473 at hf
  refine ev_aload_n C dL_law_1473 rfl (q := 1) rfl ?_
  refine ev_aload_n C dL_law_1474 rfl (q := 0) rfl ?_
  refine ev_iload_n C dL_law_1475 rfl (q := 3) rfl ?_
  refine ev_iconst (v := 1) C dL_law_1476 (by decide) ?_
  refine ev_iadd C dL_law_1477 ?_
  obtain ⟨x1, e2, hf⟩ := obnd hf
  refine ev_sld HX C dL_law_1478 e2 ?_
  refine ev_aload_n C dL_law_1479 rfl (q := 0) rfl ?_
  refine ev_iload_n C dL_law_1480 rfl (q := 3) rfl ?_
  refine ev_iconst (v := 2) C dL_law_1481 (by decide) ?_
  refine ev_iadd C dL_law_1482 ?_
  obtain ⟨x3, e4, hf⟩ := obnd hf
  refine ev_sld HX C dL_law_1483 e4 ?_
  obtain ⟨_, e5, hf⟩ := obnd hf
  obtain ⟨fs6, e5⟩ := oO_eq e5
  obtain ⟨x7, e8, hf⟩ := obnd hf
  refine ev_callV0 (As := [.int x1, .int x3]) (st := []) C rfl e5 (t_X11_laid e8) rfl hd_X11_laid rfl kw_1087 kw_1088 kw_70 kw_1089 kw_1090 (mRoomL E (Nat.le_of_ble_eq_true rfl) (Nat.le_of_ble_eq_true rfl) hk.1 hk.2) (Nat.le_of_ble_eq_true rfl) dL_law_1484 ?_
  refine ev_aload_n C dL_law_1487 rfl (q := 2) rfl ?_
  refine ev_aload_n C dL_law_1488 rfl (q := 0) rfl ?_
  refine ev_iload_n C dL_law_1489 rfl (q := 3) rfl ?_
  refine ev_iconst (v := 1) C dL_law_1490 (by decide) ?_
  refine ev_iadd C dL_law_1491 ?_
  obtain ⟨x9, e10, hf⟩ := obnd hf
  refine ev_sld HX C dL_law_1492 e10 ?_
  refine ev_aload_n C dL_law_1493 rfl (q := 0) rfl ?_
  refine ev_iload_n C dL_law_1494 rfl (q := 3) rfl ?_
  refine ev_iconst (v := 2) C dL_law_1495 (by decide) ?_
  refine ev_iadd C dL_law_1496 ?_
  obtain ⟨x11, e12, hf⟩ := obnd hf
  refine ev_sld HX C dL_law_1497 e12 ?_
  obtain ⟨_, e13, hf⟩ := obnd hf
  obtain ⟨fs14, e13⟩ := oO_eq e13
  obtain ⟨x15, e16, hf⟩ := obnd hf
  refine ev_callV0 (As := [.int x9, .int x11]) (st := [.int x7]) C rfl e13 (t_X12_laid e16) rfl hd_X12_laid rfl kw_1670 kw_1671 kw_87 kw_1672 kw_1673 (mRoomL E (Nat.le_of_ble_eq_true rfl) (Nat.le_of_ble_eq_true rfl) hk.1 hk.2) (Nat.le_of_ble_eq_true rfl) dL_law_1498 ?_
  refine ev_icmp_eq (tgt := 1748) C dL_law_1501 (by decide) (fun hc => ?_) (fun hc => ?_)
  · have hf := oit hf hc
    exact t_L_law_J1748 C E HX k18 Hk18 a1 a2 i3 M kc ks hk hf
  · have hf := oie hf hc
    refine ev_iconst (v := 0) C dL_law_1504 (by decide) ?_
    cases hf
def m_L_law_J1506 (sc : Nat → Int32) (L : Nat) (N : Nat) (mc ms : Nat) (k18 : Nat → Nat → Int32 → mM → Nat → Nat → Option (Unit)) (a1 : Nat) (a2 : Nat) (i3 : Int32) (M : mM) (kc ks : Nat) : Option (Unit) :=
  (sld sc L (i3 + 1)).bind fun x1 =>
  (sld sc L (i3 + 2)).bind fun x3 =>
  (oO M a1 11).bind fun _ =>
  (m_X11_like a1 x1 x3 M).bind fun x7 =>
  (sld sc L (i3 + 1)).bind fun x9 =>
  (sld sc L (i3 + 2)).bind fun x11 =>
  (oO x7.2 a2 12).bind fun _ =>
  (m_X12_like N a2 x9 x11 x7.2).bind fun x15 =>
  if x7.1 = x15.1 then (
    m_L_law_J1748 sc L N mc ms k18 a1 a2 i3 x15.2 kc ks) else (
    none)
set_option maxHeartbeats 4000000 in
set_option maxRecDepth 100000 in
theorem t_L_law_J1506 {X : mX} {L0 : Launch} {nm : String} {res : Unit} {sc : Nat → Int32} {L : Nat} {N : Nat} {mc ms : Nat} (C : CX X RL nm code 4 (some .boolean)) (E : EXL X L0 mc ms) (HX : HXP X L sc) (k18 : Nat → Nat → Int32 → mM → Nat → Nat → Option (Unit)) (Hk18 : ∀ (a1 : Nat) (a2 : Nat) (i3 : Int32) (M : mM) (kc ks : Nat) (hk : kc ≤ mc ∧ ks ≤ ms), k18 a1 a2 i3 M kc ks = some res → EV X 4 18 [(0, .ref 9), (1, .ref a1), (2, .ref a2), (3, .int i3)] [] kc ks M) (a1 : Nat) (a2 : Nat) (i3 : Int32) (M : mM) (kc ks : Nat) (hk : kc ≤ mc ∧ ks ≤ ms) (hf : m_L_law_J1506 sc L N mc ms k18 a1 a2 i3 M kc ks = some res) : EV X 4 1506 [(0, .ref 9), (1, .ref a1), (2, .ref a2), (3, .int i3)] [] kc ks M := by
  unfold m_L_law_J1506 at hf
  refine ev_aload_n C dL_law_1506 rfl (q := 1) rfl ?_
  refine ev_aload_n C dL_law_1507 rfl (q := 0) rfl ?_
  refine ev_iload_n C dL_law_1508 rfl (q := 3) rfl ?_
  refine ev_iconst (v := 1) C dL_law_1509 (by decide) ?_
  refine ev_iadd C dL_law_1510 ?_
  obtain ⟨x1, e2, hf⟩ := obnd hf
  refine ev_sld HX C dL_law_1511 e2 ?_
  refine ev_aload_n C dL_law_1512 rfl (q := 0) rfl ?_
  refine ev_iload_n C dL_law_1513 rfl (q := 3) rfl ?_
  refine ev_iconst (v := 2) C dL_law_1514 (by decide) ?_
  refine ev_iadd C dL_law_1515 ?_
  obtain ⟨x3, e4, hf⟩ := obnd hf
  refine ev_sld HX C dL_law_1516 e4 ?_
  obtain ⟨_, e5, hf⟩ := obnd hf
  obtain ⟨fs6, e5⟩ := oO_eq e5
  obtain ⟨x7, e8, hf⟩ := obnd hf
  refine ev_callV0 (As := [.int x1, .int x3]) (st := []) C rfl e5 (t_X11_like e8) rfl hd_X11_like rfl kw_1091 kw_1092 kw_70 kw_1093 kw_1094 (mRoomL E (Nat.le_of_ble_eq_true rfl) (Nat.le_of_ble_eq_true rfl) hk.1 hk.2) (Nat.le_of_ble_eq_true rfl) dL_law_1517 ?_
  refine ev_aload_n C dL_law_1520 rfl (q := 2) rfl ?_
  refine ev_aload_n C dL_law_1521 rfl (q := 0) rfl ?_
  refine ev_iload_n C dL_law_1522 rfl (q := 3) rfl ?_
  refine ev_iconst (v := 1) C dL_law_1523 (by decide) ?_
  refine ev_iadd C dL_law_1524 ?_
  obtain ⟨x9, e10, hf⟩ := obnd hf
  refine ev_sld HX C dL_law_1525 e10 ?_
  refine ev_aload_n C dL_law_1526 rfl (q := 0) rfl ?_
  refine ev_iload_n C dL_law_1527 rfl (q := 3) rfl ?_
  refine ev_iconst (v := 2) C dL_law_1528 (by decide) ?_
  refine ev_iadd C dL_law_1529 ?_
  obtain ⟨x11, e12, hf⟩ := obnd hf
  refine ev_sld HX C dL_law_1530 e12 ?_
  obtain ⟨_, e13, hf⟩ := obnd hf
  obtain ⟨fs14, e13⟩ := oO_eq e13
  obtain ⟨x15, e16, hf⟩ := obnd hf
  refine ev_callV0 (As := [.int x9, .int x11]) (st := [.int x7.1]) C rfl e13 (t_X12_like e16) rfl hd_X12_like rfl kw_1674 kw_1675 kw_87 kw_1676 kw_1677 (mRoomL E (Nat.le_of_ble_eq_true rfl) (Nat.le_of_ble_eq_true rfl) hk.1 hk.2) (Nat.le_of_ble_eq_true rfl) dL_law_1531 ?_
  refine ev_icmp_eq (tgt := 1748) C dL_law_1534 (by decide) (fun hc => ?_) (fun hc => ?_)
  · have hf := oit hf hc
    exact t_L_law_J1748 C E HX k18 Hk18 a1 a2 i3 x15.2 kc ks hk hf
  · have hf := oie hf hc
    refine ev_iconst (v := 0) C dL_law_1537 (by decide) ?_
    cases hf
def m_L_law_J1539 (sc : Nat → Int32) (L : Nat) (N : Nat) (mc ms : Nat) (k18 : Nat → Nat → Int32 → mM → Nat → Nat → Option (Unit)) (a1 : Nat) (a2 : Nat) (i3 : Int32) (M : mM) (kc ks : Nat) : Option (Unit) :=
  (sld sc L (i3 + 1)).bind fun x1 =>
  (sld sc L (i3 + 2)).bind fun x3 =>
  (oO M a1 11).bind fun _ =>
  (m_X11_list N a1 x1 x3 M).bind fun x7 =>
  (sld sc L (i3 + 1)).bind fun x9 =>
  (sld sc L (i3 + 2)).bind fun x11 =>
  (oO x7.2 a2 12).bind fun _ =>
  (m_X12_list N a2 x9 x11 x7.2).bind fun x15 =>
  if x7.1 = x15.1 then (
    m_L_law_J1748 sc L N mc ms k18 a1 a2 i3 x15.2 kc ks) else (
    none)
set_option maxHeartbeats 4000000 in
set_option maxRecDepth 100000 in
theorem t_L_law_J1539 {X : mX} {L0 : Launch} {nm : String} {res : Unit} {sc : Nat → Int32} {L : Nat} {N : Nat} {mc ms : Nat} (C : CX X RL nm code 4 (some .boolean)) (E : EXL X L0 mc ms) (HX : HXP X L sc) (k18 : Nat → Nat → Int32 → mM → Nat → Nat → Option (Unit)) (Hk18 : ∀ (a1 : Nat) (a2 : Nat) (i3 : Int32) (M : mM) (kc ks : Nat) (hk : kc ≤ mc ∧ ks ≤ ms), k18 a1 a2 i3 M kc ks = some res → EV X 4 18 [(0, .ref 9), (1, .ref a1), (2, .ref a2), (3, .int i3)] [] kc ks M) (a1 : Nat) (a2 : Nat) (i3 : Int32) (M : mM) (kc ks : Nat) (hk : kc ≤ mc ∧ ks ≤ ms) (hf : m_L_law_J1539 sc L N mc ms k18 a1 a2 i3 M kc ks = some res) : EV X 4 1539 [(0, .ref 9), (1, .ref a1), (2, .ref a2), (3, .int i3)] [] kc ks M := by
  unfold m_L_law_J1539 at hf
  refine ev_aload_n C dL_law_1539 rfl (q := 1) rfl ?_
  refine ev_aload_n C dL_law_1540 rfl (q := 0) rfl ?_
  refine ev_iload_n C dL_law_1541 rfl (q := 3) rfl ?_
  refine ev_iconst (v := 1) C dL_law_1542 (by decide) ?_
  refine ev_iadd C dL_law_1543 ?_
  obtain ⟨x1, e2, hf⟩ := obnd hf
  refine ev_sld HX C dL_law_1544 e2 ?_
  refine ev_aload_n C dL_law_1545 rfl (q := 0) rfl ?_
  refine ev_iload_n C dL_law_1546 rfl (q := 3) rfl ?_
  refine ev_iconst (v := 2) C dL_law_1547 (by decide) ?_
  refine ev_iadd C dL_law_1548 ?_
  obtain ⟨x3, e4, hf⟩ := obnd hf
  refine ev_sld HX C dL_law_1549 e4 ?_
  obtain ⟨_, e5, hf⟩ := obnd hf
  obtain ⟨fs6, e5⟩ := oO_eq e5
  obtain ⟨x7, e8, hf⟩ := obnd hf
  refine ev_callV0 (As := [.int x1, .int x3]) (st := []) C rfl e5 (t_X11_list e8) rfl hd_X11_list rfl kw_1100 kw_1101 kw_70 kw_1102 kw_1103 (mRoomL E (Nat.le_of_ble_eq_true rfl) (Nat.le_of_ble_eq_true rfl) hk.1 hk.2) (Nat.le_of_ble_eq_true rfl) dL_law_1550 ?_
  refine ev_aload_n C dL_law_1553 rfl (q := 2) rfl ?_
  refine ev_aload_n C dL_law_1554 rfl (q := 0) rfl ?_
  refine ev_iload_n C dL_law_1555 rfl (q := 3) rfl ?_
  refine ev_iconst (v := 1) C dL_law_1556 (by decide) ?_
  refine ev_iadd C dL_law_1557 ?_
  obtain ⟨x9, e10, hf⟩ := obnd hf
  refine ev_sld HX C dL_law_1558 e10 ?_
  refine ev_aload_n C dL_law_1559 rfl (q := 0) rfl ?_
  refine ev_iload_n C dL_law_1560 rfl (q := 3) rfl ?_
  refine ev_iconst (v := 2) C dL_law_1561 (by decide) ?_
  refine ev_iadd C dL_law_1562 ?_
  obtain ⟨x11, e12, hf⟩ := obnd hf
  refine ev_sld HX C dL_law_1563 e12 ?_
  obtain ⟨_, e13, hf⟩ := obnd hf
  obtain ⟨fs14, e13⟩ := oO_eq e13
  obtain ⟨x15, e16, hf⟩ := obnd hf
  refine ev_callV0 (As := [.int x9, .int x11]) (st := [.int x7.1]) C rfl e13 (t_X12_list e16) rfl hd_X12_list rfl kw_1678 kw_1679 kw_87 kw_1680 kw_1681 (mRoomL E (Nat.le_of_ble_eq_true rfl) (Nat.le_of_ble_eq_true rfl) hk.1 hk.2) (Nat.le_of_ble_eq_true rfl) dL_law_1564 ?_
  refine ev_icmp_eq (tgt := 1748) C dL_law_1567 (by decide) (fun hc => ?_) (fun hc => ?_)
  · have hf := oit hf hc
    exact t_L_law_J1748 C E HX k18 Hk18 a1 a2 i3 x15.2 kc ks hk hf
  · have hf := oie hf hc
    refine ev_iconst (v := 0) C dL_law_1570 (by decide) ?_
    cases hf
def m_L_law_J1572 (sc : Nat → Int32) (L : Nat) (N : Nat) (mc ms : Nat) (k18 : Nat → Nat → Int32 → mM → Nat → Nat → Option (Unit)) (a1 : Nat) (a2 : Nat) (i3 : Int32) (M : mM) (kc ks : Nat) : Option (Unit) :=
  (sld sc L (i3 + 1)).bind fun x1 =>
  (sld sc L (i3 + 2)).bind fun x3 =>
  (sld sc L (i3 + 3)).bind fun x5 =>
  (sld sc L (i3 + 4)).bind fun x7 =>
  (oO M a1 11).bind fun _ =>
  (m_X11_set a1 x1 x3 ((x5.toInt64 <<< ((32 : Int32).toInt64 &&& 63)) ||| (x7.toInt64 &&& 4294967295)) M).bind fun x11 =>
  (sld sc L (i3 + 1)).bind fun x13 =>
  (sld sc L (i3 + 2)).bind fun x15 =>
  (sld sc L (i3 + 3)).bind fun x17 =>
  (sld sc L (i3 + 4)).bind fun x19 =>
  (oO x11.2 a2 12).bind fun _ =>
  (m_X12_set a2 x13 x15 ((x17.toInt64 <<< ((32 : Int32).toInt64 &&& 63)) ||| (x19.toInt64 &&& 4294967295)) x11.2).bind fun x23 =>
  if x11.1 = x23.1 then (
    m_L_law_J1748 sc L N mc ms k18 a1 a2 i3 x23.2 kc ks) else (
    none)
set_option maxHeartbeats 4000000 in
set_option maxRecDepth 100000 in
theorem t_L_law_J1572 {X : mX} {L0 : Launch} {nm : String} {res : Unit} {sc : Nat → Int32} {L : Nat} {N : Nat} {mc ms : Nat} (C : CX X RL nm code 4 (some .boolean)) (E : EXL X L0 mc ms) (HX : HXP X L sc) (k18 : Nat → Nat → Int32 → mM → Nat → Nat → Option (Unit)) (Hk18 : ∀ (a1 : Nat) (a2 : Nat) (i3 : Int32) (M : mM) (kc ks : Nat) (hk : kc ≤ mc ∧ ks ≤ ms), k18 a1 a2 i3 M kc ks = some res → EV X 4 18 [(0, .ref 9), (1, .ref a1), (2, .ref a2), (3, .int i3)] [] kc ks M) (a1 : Nat) (a2 : Nat) (i3 : Int32) (M : mM) (kc ks : Nat) (hk : kc ≤ mc ∧ ks ≤ ms) (hf : m_L_law_J1572 sc L N mc ms k18 a1 a2 i3 M kc ks = some res) : EV X 4 1572 [(0, .ref 9), (1, .ref a1), (2, .ref a2), (3, .int i3)] [] kc ks M := by
  unfold m_L_law_J1572 at hf
  refine ev_aload_n C dL_law_1572 rfl (q := 1) rfl ?_
  refine ev_aload_n C dL_law_1573 rfl (q := 0) rfl ?_
  refine ev_iload_n C dL_law_1574 rfl (q := 3) rfl ?_
  refine ev_iconst (v := 1) C dL_law_1575 (by decide) ?_
  refine ev_iadd C dL_law_1576 ?_
  obtain ⟨x1, e2, hf⟩ := obnd hf
  refine ev_sld HX C dL_law_1577 e2 ?_
  refine ev_aload_n C dL_law_1578 rfl (q := 0) rfl ?_
  refine ev_iload_n C dL_law_1579 rfl (q := 3) rfl ?_
  refine ev_iconst (v := 2) C dL_law_1580 (by decide) ?_
  refine ev_iadd C dL_law_1581 ?_
  obtain ⟨x3, e4, hf⟩ := obnd hf
  refine ev_sld HX C dL_law_1582 e4 ?_
  refine ev_aload_n C dL_law_1583 rfl (q := 0) rfl ?_
  refine ev_iload_n C dL_law_1584 rfl (q := 3) rfl ?_
  refine ev_iconst (v := 3) C dL_law_1585 (by decide) ?_
  refine ev_iadd C dL_law_1586 ?_
  obtain ⟨x5, e6, hf⟩ := obnd hf
  refine ev_sld HX C dL_law_1587 e6 ?_
  refine ev_i2l C dL_law_1588 ?_
  refine ev_bipush (v := 32) C dL_law_1589 (by decide) ?_
  refine ev_lshl C dL_law_1591 ?_
  refine ev_aload_n C dL_law_1592 rfl (q := 0) rfl ?_
  refine ev_iload_n C dL_law_1593 rfl (q := 3) rfl ?_
  refine ev_iconst (v := 4) C dL_law_1594 (by decide) ?_
  refine ev_iadd C dL_law_1595 ?_
  obtain ⟨x7, e8, hf⟩ := obnd hf
  refine ev_sld HX C dL_law_1596 e8 ?_
  refine ev_i2l C dL_law_1597 ?_
  refine ev_ldc2 (v := 4294967295) C dL_law_1598 kw_1702 ?_
  refine ev_land C dL_law_1601 ?_
  refine ev_lor C dL_law_1602 ?_
  obtain ⟨_, e9, hf⟩ := obnd hf
  obtain ⟨fs10, e9⟩ := oO_eq e9
  obtain ⟨x11, e12, hf⟩ := obnd hf
  refine ev_callV0 (As := [.int x1, .int x3, .long ((x5.toInt64 <<< ((32 : Int32).toInt64 &&& 63)) ||| (x7.toInt64 &&& 4294967295))]) (st := []) C rfl e9 (t_X11_set e12) rfl hd_X11_set rfl kw_1105 kw_1106 kw_70 kw_1107 kw_1108 (mRoomL E (Nat.le_of_ble_eq_true rfl) (Nat.le_of_ble_eq_true rfl) hk.1 hk.2) (Nat.le_of_ble_eq_true rfl) dL_law_1603 ?_
  refine ev_aload_n C dL_law_1606 rfl (q := 2) rfl ?_
  refine ev_aload_n C dL_law_1607 rfl (q := 0) rfl ?_
  refine ev_iload_n C dL_law_1608 rfl (q := 3) rfl ?_
  refine ev_iconst (v := 1) C dL_law_1609 (by decide) ?_
  refine ev_iadd C dL_law_1610 ?_
  obtain ⟨x13, e14, hf⟩ := obnd hf
  refine ev_sld HX C dL_law_1611 e14 ?_
  refine ev_aload_n C dL_law_1612 rfl (q := 0) rfl ?_
  refine ev_iload_n C dL_law_1613 rfl (q := 3) rfl ?_
  refine ev_iconst (v := 2) C dL_law_1614 (by decide) ?_
  refine ev_iadd C dL_law_1615 ?_
  obtain ⟨x15, e16, hf⟩ := obnd hf
  refine ev_sld HX C dL_law_1616 e16 ?_
  refine ev_aload_n C dL_law_1617 rfl (q := 0) rfl ?_
  refine ev_iload_n C dL_law_1618 rfl (q := 3) rfl ?_
  refine ev_iconst (v := 3) C dL_law_1619 (by decide) ?_
  refine ev_iadd C dL_law_1620 ?_
  obtain ⟨x17, e18, hf⟩ := obnd hf
  refine ev_sld HX C dL_law_1621 e18 ?_
  refine ev_i2l C dL_law_1622 ?_
  refine ev_bipush (v := 32) C dL_law_1623 (by decide) ?_
  refine ev_lshl C dL_law_1625 ?_
  refine ev_aload_n C dL_law_1626 rfl (q := 0) rfl ?_
  refine ev_iload_n C dL_law_1627 rfl (q := 3) rfl ?_
  refine ev_iconst (v := 4) C dL_law_1628 (by decide) ?_
  refine ev_iadd C dL_law_1629 ?_
  obtain ⟨x19, e20, hf⟩ := obnd hf
  refine ev_sld HX C dL_law_1630 e20 ?_
  refine ev_i2l C dL_law_1631 ?_
  refine ev_ldc2 (v := 4294967295) C dL_law_1632 kw_1702 ?_
  refine ev_land C dL_law_1635 ?_
  refine ev_lor C dL_law_1636 ?_
  obtain ⟨_, e21, hf⟩ := obnd hf
  obtain ⟨fs22, e21⟩ := oO_eq e21
  obtain ⟨x23, e24, hf⟩ := obnd hf
  refine ev_callV0 (As := [.int x13, .int x15, .long ((x17.toInt64 <<< ((32 : Int32).toInt64 &&& 63)) ||| (x19.toInt64 &&& 4294967295))]) (st := [.int x11.1]) C rfl e21 (t_X12_set e24) rfl hd_X12_set rfl kw_1682 kw_1683 kw_87 kw_1684 kw_1685 (mRoomL E (Nat.le_of_ble_eq_true rfl) (Nat.le_of_ble_eq_true rfl) hk.1 hk.2) (Nat.le_of_ble_eq_true rfl) dL_law_1637 ?_
  refine ev_icmp_eq (tgt := 1748) C dL_law_1640 (by decide) (fun hc => ?_) (fun hc => ?_)
  · have hf := oit hf hc
    exact t_L_law_J1748 C E HX k18 Hk18 a1 a2 i3 x23.2 kc ks hk hf
  · have hf := oie hf hc
    refine ev_iconst (v := 0) C dL_law_1643 (by decide) ?_
    cases hf
def m_L_law_J1645 (sc : Nat → Int32) (L : Nat) (N : Nat) (mc ms : Nat) (k18 : Nat → Nat → Int32 → mM → Nat → Nat → Option (Unit)) (a1 : Nat) (a2 : Nat) (i3 : Int32) (M : mM) (kc ks : Nat) : Option (Unit) :=
  (sld sc L (i3 + 1)).bind fun x1 =>
  (sld sc L (i3 + 2)).bind fun x3 =>
  (oO M a1 11).bind fun _ =>
  (m_X11_get a1 x1 x3 M).bind fun x7 =>
  (sld sc L (i3 + 1)).bind fun x9 =>
  (sld sc L (i3 + 2)).bind fun x11 =>
  (oO M a2 12).bind fun _ =>
  (m_X12_get a2 x9 x11 M).bind fun x15 =>
  if (lg_cmp x7 x15) = 0 then (
    m_L_law_J1748 sc L N mc ms k18 a1 a2 i3 M kc ks) else (
    none)
set_option maxHeartbeats 4000000 in
set_option maxRecDepth 100000 in
theorem t_L_law_J1645 {X : mX} {L0 : Launch} {nm : String} {res : Unit} {sc : Nat → Int32} {L : Nat} {N : Nat} {mc ms : Nat} (C : CX X RL nm code 4 (some .boolean)) (E : EXL X L0 mc ms) (HX : HXP X L sc) (k18 : Nat → Nat → Int32 → mM → Nat → Nat → Option (Unit)) (Hk18 : ∀ (a1 : Nat) (a2 : Nat) (i3 : Int32) (M : mM) (kc ks : Nat) (hk : kc ≤ mc ∧ ks ≤ ms), k18 a1 a2 i3 M kc ks = some res → EV X 4 18 [(0, .ref 9), (1, .ref a1), (2, .ref a2), (3, .int i3)] [] kc ks M) (a1 : Nat) (a2 : Nat) (i3 : Int32) (M : mM) (kc ks : Nat) (hk : kc ≤ mc ∧ ks ≤ ms) (hf : m_L_law_J1645 sc L N mc ms k18 a1 a2 i3 M kc ks = some res) : EV X 4 1645 [(0, .ref 9), (1, .ref a1), (2, .ref a2), (3, .int i3)] [] kc ks M := by
  unfold m_L_law_J1645 at hf
  refine ev_aload_n C dL_law_1645 rfl (q := 1) rfl ?_
  refine ev_aload_n C dL_law_1646 rfl (q := 0) rfl ?_
  refine ev_iload_n C dL_law_1647 rfl (q := 3) rfl ?_
  refine ev_iconst (v := 1) C dL_law_1648 (by decide) ?_
  refine ev_iadd C dL_law_1649 ?_
  obtain ⟨x1, e2, hf⟩ := obnd hf
  refine ev_sld HX C dL_law_1650 e2 ?_
  refine ev_aload_n C dL_law_1651 rfl (q := 0) rfl ?_
  refine ev_iload_n C dL_law_1652 rfl (q := 3) rfl ?_
  refine ev_iconst (v := 2) C dL_law_1653 (by decide) ?_
  refine ev_iadd C dL_law_1654 ?_
  obtain ⟨x3, e4, hf⟩ := obnd hf
  refine ev_sld HX C dL_law_1655 e4 ?_
  obtain ⟨_, e5, hf⟩ := obnd hf
  obtain ⟨fs6, e5⟩ := oO_eq e5
  obtain ⟨x7, e8, hf⟩ := obnd hf
  refine ev_callV0 (As := [.int x1, .int x3]) (st := []) C rfl e5 (t_X11_get e8) rfl hd_X11_get rfl kw_1109 kw_1110 kw_70 kw_1111 kw_1112 (mRoomL E (Nat.le_of_ble_eq_true rfl) (Nat.le_of_ble_eq_true rfl) hk.1 hk.2) (Nat.le_of_ble_eq_true rfl) dL_law_1656 ?_
  refine ev_aload_n C dL_law_1659 rfl (q := 2) rfl ?_
  refine ev_aload_n C dL_law_1660 rfl (q := 0) rfl ?_
  refine ev_iload_n C dL_law_1661 rfl (q := 3) rfl ?_
  refine ev_iconst (v := 1) C dL_law_1662 (by decide) ?_
  refine ev_iadd C dL_law_1663 ?_
  obtain ⟨x9, e10, hf⟩ := obnd hf
  refine ev_sld HX C dL_law_1664 e10 ?_
  refine ev_aload_n C dL_law_1665 rfl (q := 0) rfl ?_
  refine ev_iload_n C dL_law_1666 rfl (q := 3) rfl ?_
  refine ev_iconst (v := 2) C dL_law_1667 (by decide) ?_
  refine ev_iadd C dL_law_1668 ?_
  obtain ⟨x11, e12, hf⟩ := obnd hf
  refine ev_sld HX C dL_law_1669 e12 ?_
  obtain ⟨_, e13, hf⟩ := obnd hf
  obtain ⟨fs14, e13⟩ := oO_eq e13
  obtain ⟨x15, e16, hf⟩ := obnd hf
  refine ev_callV0 (As := [.int x9, .int x11]) (st := [.long x7]) C rfl e13 (t_X12_get e16) rfl hd_X12_get rfl kw_1686 kw_1687 kw_87 kw_1688 kw_1689 (mRoomL E (Nat.le_of_ble_eq_true rfl) (Nat.le_of_ble_eq_true rfl) hk.1 hk.2) (Nat.le_of_ble_eq_true rfl) dL_law_1670 ?_
  refine ev_lcmp C dL_law_1673 ?_
  refine ev_if_eq (tgt := 1748) C dL_law_1674 (by decide) (fun hc => ?_) (fun hc => ?_)
  · have hf := oit hf hc
    exact t_L_law_J1748 C E HX k18 Hk18 a1 a2 i3 M kc ks hk hf
  · have hf := oie hf hc
    refine ev_iconst (v := 0) C dL_law_1677 (by decide) ?_
    cases hf
def m_L_law_J1679 (sc : Nat → Int32) (L : Nat) (N : Nat) (mc ms : Nat) (k18 : Nat → Nat → Int32 → mM → Nat → Nat → Option (Unit)) (a1 : Nat) (a2 : Nat) (i3 : Int32) (M : mM) (kc ks : Nat) : Option (Unit) :=
  (sld sc L (i3 + 1)).bind fun x1 =>
  (sld sc L (i3 + 2)).bind fun x3 =>
  (sld sc L (i3 + 3)).bind fun x5 =>
  (oO M a1 11).bind fun _ =>
  (m_X11_judge N a1 x1 x3 x5 M).bind fun x9 =>
  (sld sc L (i3 + 1)).bind fun x11 =>
  (sld sc L (i3 + 2)).bind fun x13 =>
  (sld sc L (i3 + 3)).bind fun x15 =>
  (oO x9.2 a2 12).bind fun _ =>
  (m_X12_judge N a2 x11 x13 x15 x9.2).bind fun x19 =>
  if x9.1 = x19.1 then (
    m_L_law_J1748 sc L N mc ms k18 a1 a2 i3 x19.2 kc ks) else (
    none)
set_option maxHeartbeats 4000000 in
set_option maxRecDepth 100000 in
theorem t_L_law_J1679 {X : mX} {L0 : Launch} {nm : String} {res : Unit} {sc : Nat → Int32} {L : Nat} {N : Nat} {mc ms : Nat} (C : CX X RL nm code 4 (some .boolean)) (E : EXL X L0 mc ms) (HX : HXP X L sc) (k18 : Nat → Nat → Int32 → mM → Nat → Nat → Option (Unit)) (Hk18 : ∀ (a1 : Nat) (a2 : Nat) (i3 : Int32) (M : mM) (kc ks : Nat) (hk : kc ≤ mc ∧ ks ≤ ms), k18 a1 a2 i3 M kc ks = some res → EV X 4 18 [(0, .ref 9), (1, .ref a1), (2, .ref a2), (3, .int i3)] [] kc ks M) (a1 : Nat) (a2 : Nat) (i3 : Int32) (M : mM) (kc ks : Nat) (hk : kc ≤ mc ∧ ks ≤ ms) (hf : m_L_law_J1679 sc L N mc ms k18 a1 a2 i3 M kc ks = some res) : EV X 4 1679 [(0, .ref 9), (1, .ref a1), (2, .ref a2), (3, .int i3)] [] kc ks M := by
  unfold m_L_law_J1679 at hf
  refine ev_aload_n C dL_law_1679 rfl (q := 1) rfl ?_
  refine ev_aload_n C dL_law_1680 rfl (q := 0) rfl ?_
  refine ev_iload_n C dL_law_1681 rfl (q := 3) rfl ?_
  refine ev_iconst (v := 1) C dL_law_1682 (by decide) ?_
  refine ev_iadd C dL_law_1683 ?_
  obtain ⟨x1, e2, hf⟩ := obnd hf
  refine ev_sld HX C dL_law_1684 e2 ?_
  refine ev_aload_n C dL_law_1685 rfl (q := 0) rfl ?_
  refine ev_iload_n C dL_law_1686 rfl (q := 3) rfl ?_
  refine ev_iconst (v := 2) C dL_law_1687 (by decide) ?_
  refine ev_iadd C dL_law_1688 ?_
  obtain ⟨x3, e4, hf⟩ := obnd hf
  refine ev_sld HX C dL_law_1689 e4 ?_
  refine ev_aload_n C dL_law_1690 rfl (q := 0) rfl ?_
  refine ev_iload_n C dL_law_1691 rfl (q := 3) rfl ?_
  refine ev_iconst (v := 3) C dL_law_1692 (by decide) ?_
  refine ev_iadd C dL_law_1693 ?_
  obtain ⟨x5, e6, hf⟩ := obnd hf
  refine ev_sld HX C dL_law_1694 e6 ?_
  obtain ⟨_, e7, hf⟩ := obnd hf
  obtain ⟨fs8, e7⟩ := oO_eq e7
  obtain ⟨x9, e10, hf⟩ := obnd hf
  refine ev_callV0 (As := [.int x1, .int x3, .int x5]) (st := []) C rfl e7 (t_X11_judge e10) rfl hd_X11_judge rfl kw_1113 kw_1114 kw_70 kw_1115 kw_1116 (mRoomL E (Nat.le_of_ble_eq_true rfl) (Nat.le_of_ble_eq_true rfl) hk.1 hk.2) (Nat.le_of_ble_eq_true rfl) dL_law_1695 ?_
  refine ev_aload_n C dL_law_1698 rfl (q := 2) rfl ?_
  refine ev_aload_n C dL_law_1699 rfl (q := 0) rfl ?_
  refine ev_iload_n C dL_law_1700 rfl (q := 3) rfl ?_
  refine ev_iconst (v := 1) C dL_law_1701 (by decide) ?_
  refine ev_iadd C dL_law_1702 ?_
  obtain ⟨x11, e12, hf⟩ := obnd hf
  refine ev_sld HX C dL_law_1703 e12 ?_
  refine ev_aload_n C dL_law_1704 rfl (q := 0) rfl ?_
  refine ev_iload_n C dL_law_1705 rfl (q := 3) rfl ?_
  refine ev_iconst (v := 2) C dL_law_1706 (by decide) ?_
  refine ev_iadd C dL_law_1707 ?_
  obtain ⟨x13, e14, hf⟩ := obnd hf
  refine ev_sld HX C dL_law_1708 e14 ?_
  refine ev_aload_n C dL_law_1709 rfl (q := 0) rfl ?_
  refine ev_iload_n C dL_law_1710 rfl (q := 3) rfl ?_
  refine ev_iconst (v := 3) C dL_law_1711 (by decide) ?_
  refine ev_iadd C dL_law_1712 ?_
  obtain ⟨x15, e16, hf⟩ := obnd hf
  refine ev_sld HX C dL_law_1713 e16 ?_
  obtain ⟨_, e17, hf⟩ := obnd hf
  obtain ⟨fs18, e17⟩ := oO_eq e17
  obtain ⟨x19, e20, hf⟩ := obnd hf
  refine ev_callV0 (As := [.int x11, .int x13, .int x15]) (st := [.int x9.1]) C rfl e17 (t_X12_judge e20) rfl hd_X12_judge rfl kw_1690 kw_1691 kw_87 kw_1692 kw_1693 (mRoomL E (Nat.le_of_ble_eq_true rfl) (Nat.le_of_ble_eq_true rfl) hk.1 hk.2) (Nat.le_of_ble_eq_true rfl) dL_law_1714 ?_
  refine ev_icmp_eq (tgt := 1748) C dL_law_1717 (by decide) (fun hc => ?_) (fun hc => ?_)
  · have hf := oit hf hc
    exact t_L_law_J1748 C E HX k18 Hk18 a1 a2 i3 x19.2 kc ks hk hf
  · have hf := oie hf hc
    refine ev_iconst (v := 0) C dL_law_1720 (by decide) ?_
    cases hf
def m_L_law_J1722 (sc : Nat → Int32) (L : Nat) (N : Nat) (mc ms : Nat) (k18 : Nat → Nat → Int32 → mM → Nat → Nat → Option (Unit)) (a1 : Nat) (a2 : Nat) (i3 : Int32) (M : mM) (kc ks : Nat) : Option (Unit) :=
  (oO M a1 11).bind fun _ =>
  (m_X11_image N a1 M).bind fun x3 =>
  (oO x3.2 a2 12).bind fun _ =>
  (m_X12_image N a2 x3.2).bind fun x7 =>
  if x3.1 = x7.1 then (
    m_L_law_J1748 sc L N mc ms k18 a1 a2 i3 x7.2 kc ks) else (
    none)
set_option maxHeartbeats 4000000 in
set_option maxRecDepth 100000 in
theorem t_L_law_J1722 {X : mX} {L0 : Launch} {nm : String} {res : Unit} {sc : Nat → Int32} {L : Nat} {N : Nat} {mc ms : Nat} (C : CX X RL nm code 4 (some .boolean)) (E : EXL X L0 mc ms) (HX : HXP X L sc) (k18 : Nat → Nat → Int32 → mM → Nat → Nat → Option (Unit)) (Hk18 : ∀ (a1 : Nat) (a2 : Nat) (i3 : Int32) (M : mM) (kc ks : Nat) (hk : kc ≤ mc ∧ ks ≤ ms), k18 a1 a2 i3 M kc ks = some res → EV X 4 18 [(0, .ref 9), (1, .ref a1), (2, .ref a2), (3, .int i3)] [] kc ks M) (a1 : Nat) (a2 : Nat) (i3 : Int32) (M : mM) (kc ks : Nat) (hk : kc ≤ mc ∧ ks ≤ ms) (hf : m_L_law_J1722 sc L N mc ms k18 a1 a2 i3 M kc ks = some res) : EV X 4 1722 [(0, .ref 9), (1, .ref a1), (2, .ref a2), (3, .int i3)] [] kc ks M := by
  unfold m_L_law_J1722 at hf
  refine ev_aload_n C dL_law_1722 rfl (q := 1) rfl ?_
  obtain ⟨_, e1, hf⟩ := obnd hf
  obtain ⟨fs2, e1⟩ := oO_eq e1
  obtain ⟨x3, e4, hf⟩ := obnd hf
  refine ev_callV0 (As := []) (st := []) C rfl e1 (t_X11_image e4) rfl hd_X11_image rfl kw_1130 kw_1131 kw_70 kw_1132 kw_1133 (mRoomL E (Nat.le_of_ble_eq_true rfl) (Nat.le_of_ble_eq_true rfl) hk.1 hk.2) (Nat.le_of_ble_eq_true rfl) dL_law_1723 ?_
  refine ev_aload_n C dL_law_1726 rfl (q := 2) rfl ?_
  obtain ⟨_, e5, hf⟩ := obnd hf
  obtain ⟨fs6, e5⟩ := oO_eq e5
  obtain ⟨x7, e8, hf⟩ := obnd hf
  refine ev_callV0 (As := []) (st := [.int x3.1]) C rfl e5 (t_X12_image e8) rfl hd_X12_image rfl kw_1694 kw_1695 kw_87 kw_1696 kw_1697 (mRoomL E (Nat.le_of_ble_eq_true rfl) (Nat.le_of_ble_eq_true rfl) hk.1 hk.2) (Nat.le_of_ble_eq_true rfl) dL_law_1727 ?_
  refine ev_icmp_eq (tgt := 1748) C dL_law_1730 (by decide) (fun hc => ?_) (fun hc => ?_)
  · have hf := oit hf hc
    exact t_L_law_J1748 C E HX k18 Hk18 a1 a2 i3 x7.2 kc ks hk hf
  · have hf := oie hf hc
    refine ev_iconst (v := 0) C dL_law_1733 (by decide) ?_
    cases hf
def m_L_law_J1735 (sc : Nat → Int32) (L : Nat) (N : Nat) (mc ms : Nat) (k18 : Nat → Nat → Int32 → mM → Nat → Nat → Option (Unit)) (a1 : Nat) (a2 : Nat) (i3 : Int32) (M : mM) (kc ks : Nat) : Option (Unit) :=
  (oO M a1 11).bind fun _ =>
  (m_X11_undo N a1 M).bind fun x3 =>
  (oO x3.2 a2 12).bind fun _ =>
  (m_X12_undo N a2 x3.2).bind fun x7 =>
  if x3.1 = x7.1 then (
    m_L_law_J1748 sc L N mc ms k18 a1 a2 i3 x7.2 kc ks) else (
    none)
set_option maxHeartbeats 4000000 in
set_option maxRecDepth 100000 in
theorem t_L_law_J1735 {X : mX} {L0 : Launch} {nm : String} {res : Unit} {sc : Nat → Int32} {L : Nat} {N : Nat} {mc ms : Nat} (C : CX X RL nm code 4 (some .boolean)) (E : EXL X L0 mc ms) (HX : HXP X L sc) (k18 : Nat → Nat → Int32 → mM → Nat → Nat → Option (Unit)) (Hk18 : ∀ (a1 : Nat) (a2 : Nat) (i3 : Int32) (M : mM) (kc ks : Nat) (hk : kc ≤ mc ∧ ks ≤ ms), k18 a1 a2 i3 M kc ks = some res → EV X 4 18 [(0, .ref 9), (1, .ref a1), (2, .ref a2), (3, .int i3)] [] kc ks M) (a1 : Nat) (a2 : Nat) (i3 : Int32) (M : mM) (kc ks : Nat) (hk : kc ≤ mc ∧ ks ≤ ms) (hf : m_L_law_J1735 sc L N mc ms k18 a1 a2 i3 M kc ks = some res) : EV X 4 1735 [(0, .ref 9), (1, .ref a1), (2, .ref a2), (3, .int i3)] [] kc ks M := by
  unfold m_L_law_J1735 at hf
  refine ev_aload_n C dL_law_1735 rfl (q := 1) rfl ?_
  obtain ⟨_, e1, hf⟩ := obnd hf
  obtain ⟨fs2, e1⟩ := oO_eq e1
  obtain ⟨x3, e4, hf⟩ := obnd hf
  refine ev_callV0 (As := []) (st := []) C rfl e1 (t_X11_undo e4) rfl hd_X11_undo rfl kw_1149 kw_1150 kw_70 kw_1151 kw_1152 (mRoomL E (Nat.le_of_ble_eq_true rfl) (Nat.le_of_ble_eq_true rfl) hk.1 hk.2) (Nat.le_of_ble_eq_true rfl) dL_law_1736 ?_
  refine ev_aload_n C dL_law_1739 rfl (q := 2) rfl ?_
  obtain ⟨_, e5, hf⟩ := obnd hf
  obtain ⟨fs6, e5⟩ := oO_eq e5
  obtain ⟨x7, e8, hf⟩ := obnd hf
  refine ev_callV0 (As := []) (st := [.int x3.1]) C rfl e5 (t_X12_undo e8) rfl hd_X12_undo rfl kw_1698 kw_1699 kw_87 kw_1700 kw_1701 (mRoomL E (Nat.le_of_ble_eq_true rfl) (Nat.le_of_ble_eq_true rfl) hk.1 hk.2) (Nat.le_of_ble_eq_true rfl) dL_law_1740 ?_
  refine ev_icmp_eq (tgt := 1748) C dL_law_1743 (by decide) (fun hc => ?_) (fun hc => ?_)
  · have hf := oit hf hc
    exact t_L_law_J1748 C E HX k18 Hk18 a1 a2 i3 x7.2 kc ks hk hf
  · have hf := oie hf hc
    refine ev_iconst (v := 0) C dL_law_1746 (by decide) ?_
    cases hf
def m_L_law_L18 (sc : Nat → Int32) (L : Nat) (N : Nat) (mc ms : Nat)  : Nat → Nat → Nat → Int32 → mM → Nat → Nat → Option (Unit)
  | 0, _, _, _, _, _, _ => none
  | n + 1, a1, a2, i3, M, kc, ks =>
    if ((nI L) - 5) < i3 then (
      some ()) else (
      (sld sc L i3).bind fun x1 =>
      if (x1 &&& 63) = 0 then (
        m_L_law_J236 sc L N mc ms (m_L_law_L18 sc L N mc ms  n) a1 a2 i3 M kc ks) else (
        if (x1 &&& 63) = 1 then (
          m_L_law_J269 sc L N mc ms (m_L_law_L18 sc L N mc ms  n) a1 a2 i3 M kc ks) else (
          if (x1 &&& 63) = 2 then (
            m_L_law_J302 sc L N mc ms (m_L_law_L18 sc L N mc ms  n) a1 a2 i3 M kc ks) else (
            if (x1 &&& 63) = 3 then (
              m_L_law_J345 sc L N mc ms (m_L_law_L18 sc L N mc ms  n) a1 a2 i3 M kc ks) else (
              if (x1 &&& 63) = 4 then (
                m_L_law_J358 sc L N mc ms (m_L_law_L18 sc L N mc ms  n) a1 a2 i3 M kc ks) else (
                if (x1 &&& 63) = 5 then (
                  m_L_law_J391 sc L N mc ms (m_L_law_L18 sc L N mc ms  n) a1 a2 i3 M kc ks) else (
                  if (x1 &&& 63) = 6 then (
                    m_L_law_J415 sc L N mc ms (m_L_law_L18 sc L N mc ms  n) a1 a2 i3 M kc ks) else (
                    if (x1 &&& 63) = 7 then (
                      m_L_law_J449 sc L N mc ms (m_L_law_L18 sc L N mc ms  n) a1 a2 i3 M kc ks) else (
                      if (x1 &&& 63) = 8 then (
                        m_L_law_J482 sc L N mc ms (m_L_law_L18 sc L N mc ms  n) a1 a2 i3 M kc ks) else (
                        if (x1 &&& 63) = 9 then (
                          m_L_law_J516 sc L N mc ms (m_L_law_L18 sc L N mc ms  n) a1 a2 i3 M kc ks) else (
                          if (x1 &&& 63) = 10 then (
                            m_L_law_J549 sc L N mc ms (m_L_law_L18 sc L N mc ms  n) a1 a2 i3 M kc ks) else (
                            if (x1 &&& 63) = 11 then (
                              m_L_law_J583 sc L N mc ms (m_L_law_L18 sc L N mc ms  n) a1 a2 i3 M kc ks) else (
                              if (x1 &&& 63) = 12 then (
                                m_L_law_J626 sc L N mc ms (m_L_law_L18 sc L N mc ms  n) a1 a2 i3 M kc ks) else (
                                if (x1 &&& 63) = 13 then (
                                  m_L_law_J659 sc L N mc ms (m_L_law_L18 sc L N mc ms  n) a1 a2 i3 M kc ks) else (
                                  if (x1 &&& 63) = 14 then (
                                    m_L_law_J692 sc L N mc ms (m_L_law_L18 sc L N mc ms  n) a1 a2 i3 M kc ks) else (
                                    if (x1 &&& 63) = 15 then (
                                      m_L_law_J736 sc L N mc ms (m_L_law_L18 sc L N mc ms  n) a1 a2 i3 M kc ks) else (
                                      if (x1 &&& 63) = 16 then (
                                        m_L_law_J770 sc L N mc ms (m_L_law_L18 sc L N mc ms  n) a1 a2 i3 M kc ks) else (
                                        if (x1 &&& 63) = 17 then (
                                          m_L_law_J814 sc L N mc ms (m_L_law_L18 sc L N mc ms  n) a1 a2 i3 M kc ks) else (
                                          if (x1 &&& 63) = 18 then (
                                            m_L_law_J847 sc L N mc ms (m_L_law_L18 sc L N mc ms  n) a1 a2 i3 M kc ks) else (
                                            if (x1 &&& 63) = 19 then (
                                              m_L_law_J891 sc L N mc ms (m_L_law_L18 sc L N mc ms  n) a1 a2 i3 M kc ks) else (
                                              if (x1 &&& 63) = 20 then (
                                                m_L_law_J934 sc L N mc ms (m_L_law_L18 sc L N mc ms  n) a1 a2 i3 M kc ks) else (
                                                if (x1 &&& 63) = 21 then (
                                                  m_L_law_J957 sc L N mc ms (m_L_law_L18 sc L N mc ms  n) a1 a2 i3 M kc ks) else (
                                                  if (x1 &&& 63) = 22 then (
                                                    m_L_law_J970 sc L N mc ms (m_L_law_L18 sc L N mc ms  n) a1 a2 i3 M kc ks) else (
                                                    if (x1 &&& 63) = 23 then (
                                                      m_L_law_J983 sc L N mc ms (m_L_law_L18 sc L N mc ms  n) a1 a2 i3 M kc ks) else (
                                                      if (x1 &&& 63) = 24 then (
                                                        m_L_law_J996 sc L N mc ms (m_L_law_L18 sc L N mc ms  n) a1 a2 i3 M kc ks) else (
                                                        if (x1 &&& 63) = 25 then (
                                                          m_L_law_J1029 sc L N mc ms (m_L_law_L18 sc L N mc ms  n) a1 a2 i3 M kc ks) else (
                                                          if (x1 &&& 63) = 26 then (
                                                            m_L_law_J1062 sc L N mc ms (m_L_law_L18 sc L N mc ms  n) a1 a2 i3 M kc ks) else (
                                                            if (x1 &&& 63) = 27 then (
                                                              m_L_law_J1085 sc L N mc ms (m_L_law_L18 sc L N mc ms  n) a1 a2 i3 M kc ks) else (
                                                              if (x1 &&& 63) = 28 then (
                                                                m_L_law_J1108 sc L N mc ms (m_L_law_L18 sc L N mc ms  n) a1 a2 i3 M kc ks) else (
                                                                if (x1 &&& 63) = 29 then (
                                                                  m_L_law_J1121 sc L N mc ms (m_L_law_L18 sc L N mc ms  n) a1 a2 i3 M kc ks) else (
                                                                  if (x1 &&& 63) = 30 then (
                                                                    m_L_law_J1144 sc L N mc ms (m_L_law_L18 sc L N mc ms  n) a1 a2 i3 M kc ks) else (
                                                                    if (x1 &&& 63) = 31 then (
                                                                      m_L_law_J1167 sc L N mc ms (m_L_law_L18 sc L N mc ms  n) a1 a2 i3 M kc ks) else (
                                                                      if (x1 &&& 63) = 32 then (
                                                                        m_L_law_J1211 sc L N mc ms (m_L_law_L18 sc L N mc ms  n) a1 a2 i3 M kc ks) else (
                                                                        if (x1 &&& 63) = 33 then (
                                                                          m_L_law_J1255 sc L N mc ms (m_L_law_L18 sc L N mc ms  n) a1 a2 i3 M kc ks) else (
                                                                          if (x1 &&& 63) = 34 then (
                                                                            m_L_law_J1288 sc L N mc ms (m_L_law_L18 sc L N mc ms  n) a1 a2 i3 M kc ks) else (
                                                                            if (x1 &&& 63) = 35 then (
                                                                              m_L_law_J1311 sc L N mc ms (m_L_law_L18 sc L N mc ms  n) a1 a2 i3 M kc ks) else (
                                                                              if (x1 &&& 63) = 36 then (
                                                                                m_L_law_J1364 sc L N mc ms (m_L_law_L18 sc L N mc ms  n) a1 a2 i3 M kc ks) else (
                                                                                if (x1 &&& 63) = 37 then (
                                                                                  m_L_law_J1387 sc L N mc ms (m_L_law_L18 sc L N mc ms  n) a1 a2 i3 M kc ks) else (
                                                                                  if (x1 &&& 63) = 38 then (
                                                                                    m_L_law_J1430 sc L N mc ms (m_L_law_L18 sc L N mc ms  n) a1 a2 i3 M kc ks) else (
                                                                                    if (x1 &&& 63) = 39 then (
                                                                                      m_L_law_J1473 sc L N mc ms (m_L_law_L18 sc L N mc ms  n) a1 a2 i3 M kc ks) else (
                                                                                      if (x1 &&& 63) = 40 then (
                                                                                        m_L_law_J1506 sc L N mc ms (m_L_law_L18 sc L N mc ms  n) a1 a2 i3 M kc ks) else (
                                                                                        if (x1 &&& 63) = 41 then (
                                                                                          m_L_law_J1539 sc L N mc ms (m_L_law_L18 sc L N mc ms  n) a1 a2 i3 M kc ks) else (
                                                                                          if (x1 &&& 63) = 42 then (
                                                                                            m_L_law_J1572 sc L N mc ms (m_L_law_L18 sc L N mc ms  n) a1 a2 i3 M kc ks) else (
                                                                                            if (x1 &&& 63) = 43 then (
                                                                                              m_L_law_J1645 sc L N mc ms (m_L_law_L18 sc L N mc ms  n) a1 a2 i3 M kc ks) else (
                                                                                              if (x1 &&& 63) = 44 then (
                                                                                                m_L_law_J1679 sc L N mc ms (m_L_law_L18 sc L N mc ms  n) a1 a2 i3 M kc ks) else (
                                                                                                if (x1 &&& 63) = 45 then (
                                                                                                  m_L_law_J1722 sc L N mc ms (m_L_law_L18 sc L N mc ms  n) a1 a2 i3 M kc ks) else (
                                                                                                  if (x1 &&& 63) = 46 then (
                                                                                                    m_L_law_J1735 sc L N mc ms (m_L_law_L18 sc L N mc ms  n) a1 a2 i3 M kc ks) else (
                                                                                                    m_L_law_J1748 sc L N mc ms (m_L_law_L18 sc L N mc ms  n) a1 a2 i3 M kc ks))))))))))))))))))))))))))))))))))))))))))))))))
set_option maxHeartbeats 4000000 in
set_option maxRecDepth 100000 in
theorem t_L_law_L18 {X : mX} {L0 : Launch} {nm : String} {res : Unit} {sc : Nat → Int32} {L : Nat} {N : Nat} {mc ms : Nat} (C : CX X RL nm code 4 (some .boolean)) (E : EXL X L0 mc ms) (HX : HXP X L sc)   : ∀ (n : Nat) (a1 : Nat) (a2 : Nat) (i3 : Int32) (M : mM) (kc ks : Nat) (hk : kc ≤ mc ∧ ks ≤ ms), m_L_law_L18 sc L N mc ms  n a1 a2 i3 M kc ks = some res → EV X 4 18 [(0, .ref 9), (1, .ref a1), (2, .ref a2), (3, .int i3)] [] kc ks M := by
  intro n
  induction n with
  | zero => intro a1 a2 i3 M kc ks hk hf; cases (show (none : Option (Unit)) = some res from hf)
  | succ n ih =>
    intro a1 a2 i3 M kc ks hk hf
    rw [m_L_law_L18] at hf
    refine ev_iload_n C dL_law_18 rfl (q := 3) rfl ?_
    refine ev_aload_n C dL_law_19 rfl (q := 0) rfl ?_
    refine ev_slen HX C dL_law_20 ?_
    refine ev_iconst (v := 5) C dL_law_21 (by decide) ?_
    refine ev_isub C dL_law_22 ?_
    refine ev_icmp_gt (tgt := 1754) C dL_law_23 (by decide) (fun hc => ?_) (fun hc => ?_)
    · have hf := oit hf hc
      refine ev_iconst (v := 1) C dL_law_1754 (by decide) ?_
      exact ev_lawret C E hk dL_law_1755
    · have hf := oie hf hc
      refine ev_aload_n C dL_law_26 rfl (q := 0) rfl ?_
      refine ev_iload_n C dL_law_27 rfl (q := 3) rfl ?_
      obtain ⟨x1, e2, hf⟩ := obnd hf
      refine ev_sld HX C dL_law_28 e2 ?_
      refine ev_bipush (v := 63) C dL_law_29 (by decide) ?_
      refine ev_iand C dL_law_31 ?_
      by_cases h0 : (x1 &&& 63) = 0
      · have hf := oit hf h0
        refine ev_tableIn (off := 204) (tgt := 236) C dL_law_32 (by rw [h0]; decide) (by rw [h0]; decide) (by rw [h0]; rfl) (by decide) ?_
        exact t_L_law_J236 C E HX (m_L_law_L18 sc L N mc ms  n) ih a1 a2 i3 M kc ks hk hf
      · have hf := oie hf h0
        by_cases h1 : (x1 &&& 63) = 1
        · have hf := oit hf h1
          refine ev_tableIn (off := 237) (tgt := 269) C dL_law_32 (by rw [h1]; decide) (by rw [h1]; decide) (by rw [h1]; rfl) (by decide) ?_
          exact t_L_law_J269 C E HX (m_L_law_L18 sc L N mc ms  n) ih a1 a2 i3 M kc ks hk hf
        · have hf := oie hf h1
          by_cases h2 : (x1 &&& 63) = 2
          · have hf := oit hf h2
            refine ev_tableIn (off := 270) (tgt := 302) C dL_law_32 (by rw [h2]; decide) (by rw [h2]; decide) (by rw [h2]; rfl) (by decide) ?_
            exact t_L_law_J302 C E HX (m_L_law_L18 sc L N mc ms  n) ih a1 a2 i3 M kc ks hk hf
          · have hf := oie hf h2
            by_cases h3 : (x1 &&& 63) = 3
            · have hf := oit hf h3
              refine ev_tableIn (off := 313) (tgt := 345) C dL_law_32 (by rw [h3]; decide) (by rw [h3]; decide) (by rw [h3]; rfl) (by decide) ?_
              exact t_L_law_J345 C E HX (m_L_law_L18 sc L N mc ms  n) ih a1 a2 i3 M kc ks hk hf
            · have hf := oie hf h3
              by_cases h4 : (x1 &&& 63) = 4
              · have hf := oit hf h4
                refine ev_tableIn (off := 326) (tgt := 358) C dL_law_32 (by rw [h4]; decide) (by rw [h4]; decide) (by rw [h4]; rfl) (by decide) ?_
                exact t_L_law_J358 C E HX (m_L_law_L18 sc L N mc ms  n) ih a1 a2 i3 M kc ks hk hf
              · have hf := oie hf h4
                by_cases h5 : (x1 &&& 63) = 5
                · have hf := oit hf h5
                  refine ev_tableIn (off := 359) (tgt := 391) C dL_law_32 (by rw [h5]; decide) (by rw [h5]; decide) (by rw [h5]; rfl) (by decide) ?_
                  exact t_L_law_J391 C E HX (m_L_law_L18 sc L N mc ms  n) ih a1 a2 i3 M kc ks hk hf
                · have hf := oie hf h5
                  by_cases h6 : (x1 &&& 63) = 6
                  · have hf := oit hf h6
                    refine ev_tableIn (off := 383) (tgt := 415) C dL_law_32 (by rw [h6]; decide) (by rw [h6]; decide) (by rw [h6]; rfl) (by decide) ?_
                    exact t_L_law_J415 C E HX (m_L_law_L18 sc L N mc ms  n) ih a1 a2 i3 M kc ks hk hf
                  · have hf := oie hf h6
                    by_cases h7 : (x1 &&& 63) = 7
                    · have hf := oit hf h7
                      refine ev_tableIn (off := 417) (tgt := 449) C dL_law_32 (by rw [h7]; decide) (by rw [h7]; decide) (by rw [h7]; rfl) (by decide) ?_
                      exact t_L_law_J449 C E HX (m_L_law_L18 sc L N mc ms  n) ih a1 a2 i3 M kc ks hk hf
                    · have hf := oie hf h7
                      by_cases h8 : (x1 &&& 63) = 8
                      · have hf := oit hf h8
                        refine ev_tableIn (off := 450) (tgt := 482) C dL_law_32 (by rw [h8]; decide) (by rw [h8]; decide) (by rw [h8]; rfl) (by decide) ?_
                        exact t_L_law_J482 C E HX (m_L_law_L18 sc L N mc ms  n) ih a1 a2 i3 M kc ks hk hf
                      · have hf := oie hf h8
                        by_cases h9 : (x1 &&& 63) = 9
                        · have hf := oit hf h9
                          refine ev_tableIn (off := 484) (tgt := 516) C dL_law_32 (by rw [h9]; decide) (by rw [h9]; decide) (by rw [h9]; rfl) (by decide) ?_
                          exact t_L_law_J516 C E HX (m_L_law_L18 sc L N mc ms  n) ih a1 a2 i3 M kc ks hk hf
                        · have hf := oie hf h9
                          by_cases h10 : (x1 &&& 63) = 10
                          · have hf := oit hf h10
                            refine ev_tableIn (off := 517) (tgt := 549) C dL_law_32 (by rw [h10]; decide) (by rw [h10]; decide) (by rw [h10]; rfl) (by decide) ?_
                            exact t_L_law_J549 C E HX (m_L_law_L18 sc L N mc ms  n) ih a1 a2 i3 M kc ks hk hf
                          · have hf := oie hf h10
                            by_cases h11 : (x1 &&& 63) = 11
                            · have hf := oit hf h11
                              refine ev_tableIn (off := 551) (tgt := 583) C dL_law_32 (by rw [h11]; decide) (by rw [h11]; decide) (by rw [h11]; rfl) (by decide) ?_
                              exact t_L_law_J583 C E HX (m_L_law_L18 sc L N mc ms  n) ih a1 a2 i3 M kc ks hk hf
                            · have hf := oie hf h11
                              by_cases h12 : (x1 &&& 63) = 12
                              · have hf := oit hf h12
                                refine ev_tableIn (off := 594) (tgt := 626) C dL_law_32 (by rw [h12]; decide) (by rw [h12]; decide) (by rw [h12]; rfl) (by decide) ?_
                                exact t_L_law_J626 C E HX (m_L_law_L18 sc L N mc ms  n) ih a1 a2 i3 M kc ks hk hf
                              · have hf := oie hf h12
                                by_cases h13 : (x1 &&& 63) = 13
                                · have hf := oit hf h13
                                  refine ev_tableIn (off := 627) (tgt := 659) C dL_law_32 (by rw [h13]; decide) (by rw [h13]; decide) (by rw [h13]; rfl) (by decide) ?_
                                  exact t_L_law_J659 C E HX (m_L_law_L18 sc L N mc ms  n) ih a1 a2 i3 M kc ks hk hf
                                · have hf := oie hf h13
                                  by_cases h14 : (x1 &&& 63) = 14
                                  · have hf := oit hf h14
                                    refine ev_tableIn (off := 660) (tgt := 692) C dL_law_32 (by rw [h14]; decide) (by rw [h14]; decide) (by rw [h14]; rfl) (by decide) ?_
                                    exact t_L_law_J692 C E HX (m_L_law_L18 sc L N mc ms  n) ih a1 a2 i3 M kc ks hk hf
                                  · have hf := oie hf h14
                                    by_cases h15 : (x1 &&& 63) = 15
                                    · have hf := oit hf h15
                                      refine ev_tableIn (off := 704) (tgt := 736) C dL_law_32 (by rw [h15]; decide) (by rw [h15]; decide) (by rw [h15]; rfl) (by decide) ?_
                                      exact t_L_law_J736 C E HX (m_L_law_L18 sc L N mc ms  n) ih a1 a2 i3 M kc ks hk hf
                                    · have hf := oie hf h15
                                      by_cases h16 : (x1 &&& 63) = 16
                                      · have hf := oit hf h16
                                        refine ev_tableIn (off := 738) (tgt := 770) C dL_law_32 (by rw [h16]; decide) (by rw [h16]; decide) (by rw [h16]; rfl) (by decide) ?_
                                        exact t_L_law_J770 C E HX (m_L_law_L18 sc L N mc ms  n) ih a1 a2 i3 M kc ks hk hf
                                      · have hf := oie hf h16
                                        by_cases h17 : (x1 &&& 63) = 17
                                        · have hf := oit hf h17
                                          refine ev_tableIn (off := 782) (tgt := 814) C dL_law_32 (by rw [h17]; decide) (by rw [h17]; decide) (by rw [h17]; rfl) (by decide) ?_
                                          exact t_L_law_J814 C E HX (m_L_law_L18 sc L N mc ms  n) ih a1 a2 i3 M kc ks hk hf
                                        · have hf := oie hf h17
                                          by_cases h18 : (x1 &&& 63) = 18
                                          · have hf := oit hf h18
                                            refine ev_tableIn (off := 815) (tgt := 847) C dL_law_32 (by rw [h18]; decide) (by rw [h18]; decide) (by rw [h18]; rfl) (by decide) ?_
                                            exact t_L_law_J847 C E HX (m_L_law_L18 sc L N mc ms  n) ih a1 a2 i3 M kc ks hk hf
                                          · have hf := oie hf h18
                                            by_cases h19 : (x1 &&& 63) = 19
                                            · have hf := oit hf h19
                                              refine ev_tableIn (off := 859) (tgt := 891) C dL_law_32 (by rw [h19]; decide) (by rw [h19]; decide) (by rw [h19]; rfl) (by decide) ?_
                                              exact t_L_law_J891 C E HX (m_L_law_L18 sc L N mc ms  n) ih a1 a2 i3 M kc ks hk hf
                                            · have hf := oie hf h19
                                              by_cases h20 : (x1 &&& 63) = 20
                                              · have hf := oit hf h20
                                                refine ev_tableIn (off := 902) (tgt := 934) C dL_law_32 (by rw [h20]; decide) (by rw [h20]; decide) (by rw [h20]; rfl) (by decide) ?_
                                                exact t_L_law_J934 C E HX (m_L_law_L18 sc L N mc ms  n) ih a1 a2 i3 M kc ks hk hf
                                              · have hf := oie hf h20
                                                by_cases h21 : (x1 &&& 63) = 21
                                                · have hf := oit hf h21
                                                  refine ev_tableIn (off := 925) (tgt := 957) C dL_law_32 (by rw [h21]; decide) (by rw [h21]; decide) (by rw [h21]; rfl) (by decide) ?_
                                                  exact t_L_law_J957 C E HX (m_L_law_L18 sc L N mc ms  n) ih a1 a2 i3 M kc ks hk hf
                                                · have hf := oie hf h21
                                                  by_cases h22 : (x1 &&& 63) = 22
                                                  · have hf := oit hf h22
                                                    refine ev_tableIn (off := 938) (tgt := 970) C dL_law_32 (by rw [h22]; decide) (by rw [h22]; decide) (by rw [h22]; rfl) (by decide) ?_
                                                    exact t_L_law_J970 C E HX (m_L_law_L18 sc L N mc ms  n) ih a1 a2 i3 M kc ks hk hf
                                                  · have hf := oie hf h22
                                                    by_cases h23 : (x1 &&& 63) = 23
                                                    · have hf := oit hf h23
                                                      refine ev_tableIn (off := 951) (tgt := 983) C dL_law_32 (by rw [h23]; decide) (by rw [h23]; decide) (by rw [h23]; rfl) (by decide) ?_
                                                      exact t_L_law_J983 C E HX (m_L_law_L18 sc L N mc ms  n) ih a1 a2 i3 M kc ks hk hf
                                                    · have hf := oie hf h23
                                                      by_cases h24 : (x1 &&& 63) = 24
                                                      · have hf := oit hf h24
                                                        refine ev_tableIn (off := 964) (tgt := 996) C dL_law_32 (by rw [h24]; decide) (by rw [h24]; decide) (by rw [h24]; rfl) (by decide) ?_
                                                        exact t_L_law_J996 C E HX (m_L_law_L18 sc L N mc ms  n) ih a1 a2 i3 M kc ks hk hf
                                                      · have hf := oie hf h24
                                                        by_cases h25 : (x1 &&& 63) = 25
                                                        · have hf := oit hf h25
                                                          refine ev_tableIn (off := 997) (tgt := 1029) C dL_law_32 (by rw [h25]; decide) (by rw [h25]; decide) (by rw [h25]; rfl) (by decide) ?_
                                                          exact t_L_law_J1029 C E HX (m_L_law_L18 sc L N mc ms  n) ih a1 a2 i3 M kc ks hk hf
                                                        · have hf := oie hf h25
                                                          by_cases h26 : (x1 &&& 63) = 26
                                                          · have hf := oit hf h26
                                                            refine ev_tableIn (off := 1030) (tgt := 1062) C dL_law_32 (by rw [h26]; decide) (by rw [h26]; decide) (by rw [h26]; rfl) (by decide) ?_
                                                            exact t_L_law_J1062 C E HX (m_L_law_L18 sc L N mc ms  n) ih a1 a2 i3 M kc ks hk hf
                                                          · have hf := oie hf h26
                                                            by_cases h27 : (x1 &&& 63) = 27
                                                            · have hf := oit hf h27
                                                              refine ev_tableIn (off := 1053) (tgt := 1085) C dL_law_32 (by rw [h27]; decide) (by rw [h27]; decide) (by rw [h27]; rfl) (by decide) ?_
                                                              exact t_L_law_J1085 C E HX (m_L_law_L18 sc L N mc ms  n) ih a1 a2 i3 M kc ks hk hf
                                                            · have hf := oie hf h27
                                                              by_cases h28 : (x1 &&& 63) = 28
                                                              · have hf := oit hf h28
                                                                refine ev_tableIn (off := 1076) (tgt := 1108) C dL_law_32 (by rw [h28]; decide) (by rw [h28]; decide) (by rw [h28]; rfl) (by decide) ?_
                                                                exact t_L_law_J1108 C E HX (m_L_law_L18 sc L N mc ms  n) ih a1 a2 i3 M kc ks hk hf
                                                              · have hf := oie hf h28
                                                                by_cases h29 : (x1 &&& 63) = 29
                                                                · have hf := oit hf h29
                                                                  refine ev_tableIn (off := 1089) (tgt := 1121) C dL_law_32 (by rw [h29]; decide) (by rw [h29]; decide) (by rw [h29]; rfl) (by decide) ?_
                                                                  exact t_L_law_J1121 C E HX (m_L_law_L18 sc L N mc ms  n) ih a1 a2 i3 M kc ks hk hf
                                                                · have hf := oie hf h29
                                                                  by_cases h30 : (x1 &&& 63) = 30
                                                                  · have hf := oit hf h30
                                                                    refine ev_tableIn (off := 1112) (tgt := 1144) C dL_law_32 (by rw [h30]; decide) (by rw [h30]; decide) (by rw [h30]; rfl) (by decide) ?_
                                                                    exact t_L_law_J1144 C E HX (m_L_law_L18 sc L N mc ms  n) ih a1 a2 i3 M kc ks hk hf
                                                                  · have hf := oie hf h30
                                                                    by_cases h31 : (x1 &&& 63) = 31
                                                                    · have hf := oit hf h31
                                                                      refine ev_tableIn (off := 1135) (tgt := 1167) C dL_law_32 (by rw [h31]; decide) (by rw [h31]; decide) (by rw [h31]; rfl) (by decide) ?_
                                                                      exact t_L_law_J1167 C E HX (m_L_law_L18 sc L N mc ms  n) ih a1 a2 i3 M kc ks hk hf
                                                                    · have hf := oie hf h31
                                                                      by_cases h32 : (x1 &&& 63) = 32
                                                                      · have hf := oit hf h32
                                                                        refine ev_tableIn (off := 1179) (tgt := 1211) C dL_law_32 (by rw [h32]; decide) (by rw [h32]; decide) (by rw [h32]; rfl) (by decide) ?_
                                                                        exact t_L_law_J1211 C E HX (m_L_law_L18 sc L N mc ms  n) ih a1 a2 i3 M kc ks hk hf
                                                                      · have hf := oie hf h32
                                                                        by_cases h33 : (x1 &&& 63) = 33
                                                                        · have hf := oit hf h33
                                                                          refine ev_tableIn (off := 1223) (tgt := 1255) C dL_law_32 (by rw [h33]; decide) (by rw [h33]; decide) (by rw [h33]; rfl) (by decide) ?_
                                                                          exact t_L_law_J1255 C E HX (m_L_law_L18 sc L N mc ms  n) ih a1 a2 i3 M kc ks hk hf
                                                                        · have hf := oie hf h33
                                                                          by_cases h34 : (x1 &&& 63) = 34
                                                                          · have hf := oit hf h34
                                                                            refine ev_tableIn (off := 1256) (tgt := 1288) C dL_law_32 (by rw [h34]; decide) (by rw [h34]; decide) (by rw [h34]; rfl) (by decide) ?_
                                                                            exact t_L_law_J1288 C E HX (m_L_law_L18 sc L N mc ms  n) ih a1 a2 i3 M kc ks hk hf
                                                                          · have hf := oie hf h34
                                                                            by_cases h35 : (x1 &&& 63) = 35
                                                                            · have hf := oit hf h35
                                                                              refine ev_tableIn (off := 1279) (tgt := 1311) C dL_law_32 (by rw [h35]; decide) (by rw [h35]; decide) (by rw [h35]; rfl) (by decide) ?_
                                                                              exact t_L_law_J1311 C E HX (m_L_law_L18 sc L N mc ms  n) ih a1 a2 i3 M kc ks hk hf
                                                                            · have hf := oie hf h35
                                                                              by_cases h36 : (x1 &&& 63) = 36
                                                                              · have hf := oit hf h36
                                                                                refine ev_tableIn (off := 1332) (tgt := 1364) C dL_law_32 (by rw [h36]; decide) (by rw [h36]; decide) (by rw [h36]; rfl) (by decide) ?_
                                                                                exact t_L_law_J1364 C E HX (m_L_law_L18 sc L N mc ms  n) ih a1 a2 i3 M kc ks hk hf
                                                                              · have hf := oie hf h36
                                                                                by_cases h37 : (x1 &&& 63) = 37
                                                                                · have hf := oit hf h37
                                                                                  refine ev_tableIn (off := 1355) (tgt := 1387) C dL_law_32 (by rw [h37]; decide) (by rw [h37]; decide) (by rw [h37]; rfl) (by decide) ?_
                                                                                  exact t_L_law_J1387 C E HX (m_L_law_L18 sc L N mc ms  n) ih a1 a2 i3 M kc ks hk hf
                                                                                · have hf := oie hf h37
                                                                                  by_cases h38 : (x1 &&& 63) = 38
                                                                                  · have hf := oit hf h38
                                                                                    refine ev_tableIn (off := 1398) (tgt := 1430) C dL_law_32 (by rw [h38]; decide) (by rw [h38]; decide) (by rw [h38]; rfl) (by decide) ?_
                                                                                    exact t_L_law_J1430 C E HX (m_L_law_L18 sc L N mc ms  n) ih a1 a2 i3 M kc ks hk hf
                                                                                  · have hf := oie hf h38
                                                                                    by_cases h39 : (x1 &&& 63) = 39
                                                                                    · have hf := oit hf h39
                                                                                      refine ev_tableIn (off := 1441) (tgt := 1473) C dL_law_32 (by rw [h39]; decide) (by rw [h39]; decide) (by rw [h39]; rfl) (by decide) ?_
                                                                                      exact t_L_law_J1473 C E HX (m_L_law_L18 sc L N mc ms  n) ih a1 a2 i3 M kc ks hk hf
                                                                                    · have hf := oie hf h39
                                                                                      by_cases h40 : (x1 &&& 63) = 40
                                                                                      · have hf := oit hf h40
                                                                                        refine ev_tableIn (off := 1474) (tgt := 1506) C dL_law_32 (by rw [h40]; decide) (by rw [h40]; decide) (by rw [h40]; rfl) (by decide) ?_
                                                                                        exact t_L_law_J1506 C E HX (m_L_law_L18 sc L N mc ms  n) ih a1 a2 i3 M kc ks hk hf
                                                                                      · have hf := oie hf h40
                                                                                        by_cases h41 : (x1 &&& 63) = 41
                                                                                        · have hf := oit hf h41
                                                                                          refine ev_tableIn (off := 1507) (tgt := 1539) C dL_law_32 (by rw [h41]; decide) (by rw [h41]; decide) (by rw [h41]; rfl) (by decide) ?_
                                                                                          exact t_L_law_J1539 C E HX (m_L_law_L18 sc L N mc ms  n) ih a1 a2 i3 M kc ks hk hf
                                                                                        · have hf := oie hf h41
                                                                                          by_cases h42 : (x1 &&& 63) = 42
                                                                                          · have hf := oit hf h42
                                                                                            refine ev_tableIn (off := 1540) (tgt := 1572) C dL_law_32 (by rw [h42]; decide) (by rw [h42]; decide) (by rw [h42]; rfl) (by decide) ?_
                                                                                            exact t_L_law_J1572 C E HX (m_L_law_L18 sc L N mc ms  n) ih a1 a2 i3 M kc ks hk hf
                                                                                          · have hf := oie hf h42
                                                                                            by_cases h43 : (x1 &&& 63) = 43
                                                                                            · have hf := oit hf h43
                                                                                              refine ev_tableIn (off := 1613) (tgt := 1645) C dL_law_32 (by rw [h43]; decide) (by rw [h43]; decide) (by rw [h43]; rfl) (by decide) ?_
                                                                                              exact t_L_law_J1645 C E HX (m_L_law_L18 sc L N mc ms  n) ih a1 a2 i3 M kc ks hk hf
                                                                                            · have hf := oie hf h43
                                                                                              by_cases h44 : (x1 &&& 63) = 44
                                                                                              · have hf := oit hf h44
                                                                                                refine ev_tableIn (off := 1647) (tgt := 1679) C dL_law_32 (by rw [h44]; decide) (by rw [h44]; decide) (by rw [h44]; rfl) (by decide) ?_
                                                                                                exact t_L_law_J1679 C E HX (m_L_law_L18 sc L N mc ms  n) ih a1 a2 i3 M kc ks hk hf
                                                                                              · have hf := oie hf h44
                                                                                                by_cases h45 : (x1 &&& 63) = 45
                                                                                                · have hf := oit hf h45
                                                                                                  refine ev_tableIn (off := 1690) (tgt := 1722) C dL_law_32 (by rw [h45]; decide) (by rw [h45]; decide) (by rw [h45]; rfl) (by decide) ?_
                                                                                                  exact t_L_law_J1722 C E HX (m_L_law_L18 sc L N mc ms  n) ih a1 a2 i3 M kc ks hk hf
                                                                                                · have hf := oie hf h45
                                                                                                  by_cases h46 : (x1 &&& 63) = 46
                                                                                                  · have hf := oit hf h46
                                                                                                    refine ev_tableIn (off := 1703) (tgt := 1735) C dL_law_32 (by rw [h46]; decide) (by rw [h46]; decide) (by rw [h46]; rfl) (by decide) ?_
                                                                                                    exact t_L_law_J1735 C E HX (m_L_law_L18 sc L N mc ms  n) ih a1 a2 i3 M kc ks hk hf
                                                                                                  · have hf := oie hf h46
                                                                                                    refine ev_tableOut (tgt := 1748) C dL_law_32 (tab_out (lo := 0) (n := 47) (lt_s (lt_s (lt_s (lt_s (lt_s (lt_s (lt_s (lt_s (lt_s (lt_s (lt_s (lt_s (lt_s (lt_s (lt_s (lt_s (lt_s (lt_s (lt_s (lt_s (lt_s (lt_s (lt_s (lt_s (lt_s (lt_s (lt_s (lt_s (lt_s (lt_s (lt_s (lt_s (lt_s (lt_s (lt_s (lt_s (lt_s (lt_s (lt_s (lt_s (lt_s (lt_s (lt_s (lt_s (lt_s (lt_s (lt_s lt_0 h0) h1) h2) h3) h4) h5) h6) h7) h8) h9) h10) h11) h12) h13) h14) h15) h16) h17) h18) h19) h20) h21) h22) h23) h24) h25) h26) h27) h28) h29) h30) h31) h32) h33) h34) h35) h36) h37) h38) h39) h40) h41) h42) h43) h44) h45) h46) (by decide) (by decide)) (by decide) ?_
                                                                                                    exact t_L_law_J1748 C E HX (m_L_law_L18 sc L N mc ms  n) ih a1 a2 i3 M kc ks hk hf
def m_L_law (sc : Nat → Int32) (L : Nat) (N : Nat) (mc ms : Nat) (M : mM) : Option Unit :=
  (oif (0 + 1 ≤ mc ∧ 0 + 12 ≤ ms)).bind fun _ =>
  (oif ((0 + 1) + 100 ≤ mc ∧ (0 + 12) + 1800 ≤ ms)).bind fun _ =>
  (m_X11_init N 100 1800 M.length (M ++ [.inr (11, [.null, .null, .int 0, .null, .null, .null, .null, .null, .null, .null, .null, .null])])).bind fun x1 =>
  (oif (((0 + 1) + 100) + 1 ≤ mc ∧ ((0 + 12) + 1800) + 29 ≤ ms)).bind fun _ =>
  (oif ((((0 + 1) + 100) + 1) + 30 ≤ mc ∧ (((0 + 12) + 1800) + 29) + 2000 ≤ ms)).bind fun _ =>
  (m_X12_init N 30 2000 x1.length (x1 ++ [.inr (12, [.null, .null, .int 0, .int 0, .null, .int 0, .null, .null, .null, .null, .null, .null, .null, .null, .null, .int 0, .null, .null, .null, .null, .int 0, .int 0, .int 0, .null, .int 0, .int 0, .null, .null, .int 0])])).bind fun x3 =>
  m_L_law_L18 sc L N mc ms  N M.length x1.length 0 x3 ((((0 + 1) + 100) + 1) + 30) ((((0 + 12) + 1800) + 29) + 2000)
set_option maxHeartbeats 4000000 in
set_option maxRecDepth 100000 in
theorem t_L_law {X : mX} {L0 : Launch} {nm : String} {res : Unit} {sc : Nat → Int32} {L N mc ms : Nat} {M : mM} (C : CX X RL nm code 4 (some .boolean)) (E : EXL X L0 mc ms) (HX : HXP X L sc) (hf : m_L_law sc L N mc ms M = some res) : EV X 4 0 [(0, .ref 9)] [] 0 0 M := by
  unfold m_L_law at hf
  have hk : 0 ≤ mc ∧ 0 ≤ ms := ⟨Nat.zero_le _, Nat.zero_le _⟩
  obtain ⟨_, hk, hf⟩ := obnd hf
  have hk := oif_eq hk
  refine ev_new (fs := [.null, .null, .int 0, .null, .null, .null, .null, .null, .null, .null, .null, .null]) C ok_11 dL_law_0 kw_98 kw_99 kw_70 (fun j hj => newf_11 _ j hj) (mcapL E hk).1 (mcapL E hk).2 ?_
  refine ev_dup C dL_law_3 rfl ?_
  obtain ⟨_, hk, hf⟩ := obnd hf
  have hk := oif_eq hk
  obtain ⟨x1, e2, hf⟩ := obnd hf
  refine ev_callI (As := []) (st := [.ref M.length]) C (t_X11_init e2) rfl hd_X11_init rfl kw_100 kw_101 kw_70 kw_102 (mRoomL E (Nat.le_of_ble_eq_true rfl) (Nat.le_of_ble_eq_true rfl) hk.1 hk.2) (Nat.le_of_ble_eq_true rfl) dL_law_4 ?_
  refine ev_astore_n (l' := [(1, .ref M.length), (0, .ref 9)]) C dL_law_7 rfl (by decide) rfl ?_
  obtain ⟨_, hk, hf⟩ := obnd hf
  have hk := oif_eq hk
  refine ev_new (fs := [.null, .null, .int 0, .int 0, .null, .int 0, .null, .null, .null, .null, .null, .null, .null, .null, .null, .int 0, .null, .null, .null, .null, .int 0, .int 0, .int 0, .null, .int 0, .int 0, .null, .null, .int 0]) C ok_12 dL_law_8 kw_1153 kw_1154 kw_87 (fun j hj => newf_12 _ j hj) (mcapL E hk).1 (mcapL E hk).2 ?_
  refine ev_dup C dL_law_11 rfl ?_
  obtain ⟨_, hk, hf⟩ := obnd hf
  have hk := oif_eq hk
  obtain ⟨x3, e4, hf⟩ := obnd hf
  refine ev_callI (As := []) (st := [.ref x1.length]) C (t_X12_init e4) rfl hd_X12_init rfl kw_1155 kw_1156 kw_87 kw_1157 (mRoomL E (Nat.le_of_ble_eq_true rfl) (Nat.le_of_ble_eq_true rfl) hk.1 hk.2) (Nat.le_of_ble_eq_true rfl) dL_law_12 ?_
  refine ev_astore_n (l' := [(2, .ref x1.length), (1, .ref M.length), (0, .ref 9)]) C dL_law_15 rfl (by decide) rfl ?_
  refine ev_iconst (v := 0) C dL_law_16 (by decide) ?_
  refine ev_istore_n (l' := [(3, .int 0), (2, .ref x1.length), (1, .ref M.length), (0, .ref 9)]) C dL_law_17 rfl (by decide) rfl ?_
  refine ev_sub [3, 2, 1, 0] rfl ?_
  exact t_L_law_L18 C E HX   N M.length x1.length 0 x3 ((((0 + 1) + 100) + 1) + 30) ((((0 + 12) + 1800) + 29) + 2000) hk hf
