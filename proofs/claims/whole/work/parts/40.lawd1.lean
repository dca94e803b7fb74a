theorem d_Law_law_262 : decode b_Law_law 262 = .ok (.aload_n 1, 1) := by decide +kernel
theorem d_Law_law_263 : decode b_Law_law 263 = .ok (.aload_n 0, 1) := by decide +kernel
theorem d_Law_law_264 : decode b_Law_law 264 = .ok (.iload 4, 2) := by decide +kernel
theorem d_Law_law_266 : decode b_Law_law 266 = .ok (.iconst 1, 1) := by decide +kernel
theorem d_Law_law_267 : decode b_Law_law 267 = .ok (.iadd, 1) := by decide +kernel
theorem d_Law_law_268 : decode b_Law_law 268 = .ok (.iaload, 1) := by decide +kernel
theorem d_Law_law_269 : decode b_Law_law 269 = .ok (.i2c, 1) := by decide +kernel
theorem d_Law_law_270 : decode b_Law_law 270 = .ok (.aload_n 3, 1) := by decide +kernel
theorem d_Law_law_271 : decode b_Law_law 271 = .ok (.invokestatic 77, 3) := by decide +kernel
theorem d_Law_law_274 : decode b_Law_law 274 = .ok (.istore 5, 2) := by decide +kernel
theorem d_Law_law_276 : decode b_Law_law 276 = .ok (.aload_n 2, 1) := by decide +kernel
theorem d_Law_law_277 : decode b_Law_law 277 = .ok (.aload_n 0, 1) := by decide +kernel
theorem d_Law_law_278 : decode b_Law_law 278 = .ok (.iload 4, 2) := by decide +kernel
theorem d_Law_law_280 : decode b_Law_law 280 = .ok (.iconst 1, 1) := by decide +kernel
theorem d_Law_law_281 : decode b_Law_law 281 = .ok (.iadd, 1) := by decide +kernel
theorem d_Law_law_282 : decode b_Law_law 282 = .ok (.iaload, 1) := by decide +kernel
theorem d_Law_law_283 : decode b_Law_law 283 = .ok (.i2c, 1) := by decide +kernel
theorem d_Law_law_284 : decode b_Law_law 284 = .ok (.invokevirtual 80, 3) := by decide +kernel
theorem d_Law_law_287 : decode b_Law_law 287 = .ok (.istore 6, 2) := by decide +kernel
theorem d_Law_law_289 : decode b_Law_law 289 = .ok (.aload_n 2, 1) := by decide +kernel
theorem d_Law_law_290 : decode b_Law_law 290 = .ok (.invokevirtual 74, 3) := by decide +kernel
theorem d_Law_law_293 : decode b_Law_law 293 = .ok (.iload 5, 2) := by decide +kernel
theorem d_Law_law_295 : decode b_Law_law 295 = .ok (.if_icmp .eq 5, 3) := by decide +kernel
theorem d_Law_law_298 : decode b_Law_law 298 = .ok (.iconst 0, 1) := by decide +kernel
theorem d_Law_law_299 : decode b_Law_law 299 = .ok (.ireturn, 1) := by decide +kernel
theorem d_Law_law_300 : decode b_Law_law 300 = .ok (.iload 5, 2) := by decide +kernel
theorem d_Law_law_302 : decode b_Law_law 302 = .ok (.ifCond .ne 15, 3) := by decide +kernel
theorem d_Law_law_305 : decode b_Law_law 305 = .ok (.aload_n 3, 1) := by decide +kernel
theorem d_Law_law_306 : decode b_Law_law 306 = .ok (.iconst 0, 1) := by decide +kernel
theorem d_Law_law_307 : decode b_Law_law 307 = .ok (.laload, 1) := by decide +kernel
theorem d_Law_law_308 : decode b_Law_law 308 = .ok (.iload 6, 2) := by decide +kernel
theorem d_Law_law_310 : decode b_Law_law 310 = .ok (.i2l, 1) := by decide +kernel
theorem d_Law_law_311 : decode b_Law_law 311 = .ok (.lcmp, 1) := by decide +kernel
theorem d_Law_law_312 : decode b_Law_law 312 = .ok (.ifCond .eq 5, 3) := by decide +kernel
theorem d_Law_law_315 : decode b_Law_law 315 = .ok (.iconst 0, 1) := by decide +kernel
theorem d_Law_law_316 : decode b_Law_law 316 = .ok (.ireturn, 1) := by decide +kernel
theorem d_Law_law_317 : decode b_Law_law 317 = .ok (.goto 332, 3) := by decide +kernel
theorem d_Law_law_320 : decode b_Law_law 320 = .ok (.aload_n 1, 1) := by decide +kernel
theorem d_Law_law_321 : decode b_Law_law 321 = .ok (.invokevirtual 81, 3) := by decide +kernel
theorem d_Law_law_324 : decode b_Law_law 324 = .ok (.aload_n 2, 1) := by decide +kernel
theorem d_Law_law_325 : decode b_Law_law 325 = .ok (.invokevirtual 84, 3) := by decide +kernel
theorem d_Law_law_328 : decode b_Law_law 328 = .ok (.if_icmp .eq 321, 3) := by decide +kernel
theorem d_Law_law_331 : decode b_Law_law 331 = .ok (.iconst 0, 1) := by decide +kernel
theorem d_Law_law_332 : decode b_Law_law 332 = .ok (.ireturn, 1) := by decide +kernel
theorem d_Law_law_333 : decode b_Law_law 333 = .ok (.aload_n 1, 1) := by decide +kernel
theorem d_Law_law_334 : decode b_Law_law 334 = .ok (.aload_n 3, 1) := by decide +kernel
theorem d_Law_law_335 : decode b_Law_law 335 = .ok (.invokestatic 85, 3) := by decide +kernel
theorem d_Law_law_338 : decode b_Law_law 338 = .ok (.istore 5, 2) := by decide +kernel
theorem d_Law_law_340 : decode b_Law_law 340 = .ok (.aload_n 2, 1) := by decide +kernel
theorem d_Law_law_341 : decode b_Law_law 341 = .ok (.invokevirtual 88, 3) := by decide +kernel
theorem d_Law_law_344 : decode b_Law_law 344 = .ok (.lstore 6, 2) := by decide +kernel
theorem d_Law_law_346 : decode b_Law_law 346 = .ok (.aload_n 2, 1) := by decide +kernel
theorem d_Law_law_347 : decode b_Law_law 347 = .ok (.invokevirtual 74, 3) := by decide +kernel
theorem d_Law_law_350 : decode b_Law_law 350 = .ok (.iload 5, 2) := by decide +kernel
theorem d_Law_law_352 : decode b_Law_law 352 = .ok (.if_icmp .eq 5, 3) := by decide +kernel
theorem d_Law_law_355 : decode b_Law_law 355 = .ok (.iconst 0, 1) := by decide +kernel
theorem d_Law_law_356 : decode b_Law_law 356 = .ok (.ireturn, 1) := by decide +kernel
theorem d_Law_law_357 : decode b_Law_law 357 = .ok (.iload 5, 2) := by decide +kernel
theorem d_Law_law_359 : decode b_Law_law 359 = .ok (.ifCond .ne 14, 3) := by decide +kernel
theorem d_Law_law_362 : decode b_Law_law 362 = .ok (.aload_n 3, 1) := by decide +kernel
theorem d_Law_law_363 : decode b_Law_law 363 = .ok (.iconst 0, 1) := by decide +kernel
theorem d_Law_law_364 : decode b_Law_law 364 = .ok (.laload, 1) := by decide +kernel
theorem d_Law_law_365 : decode b_Law_law 365 = .ok (.lload 6, 2) := by decide +kernel
theorem d_Law_law_367 : decode b_Law_law 367 = .ok (.lcmp, 1) := by decide +kernel
theorem d_Law_law_368 : decode b_Law_law 368 = .ok (.ifCond .eq 5, 3) := by decide +kernel
theorem d_Law_law_371 : decode b_Law_law 371 = .ok (.iconst 0, 1) := by decide +kernel
theorem d_Law_law_372 : decode b_Law_law 372 = .ok (.ireturn, 1) := by decide +kernel
theorem d_Law_law_373 : decode b_Law_law 373 = .ok (.goto 276, 3) := by decide +kernel
theorem d_Law_law_376 : decode b_Law_law 376 = .ok (.aload_n 1, 1) := by decide +kernel
theorem d_Law_law_377 : decode b_Law_law 377 = .ok (.aload_n 0, 1) := by decide +kernel
theorem d_Law_law_378 : decode b_Law_law 378 = .ok (.iload 4, 2) := by decide +kernel
theorem d_Law_law_380 : decode b_Law_law 380 = .ok (.iconst 1, 1) := by decide +kernel
theorem d_Law_law_381 : decode b_Law_law 381 = .ok (.iadd, 1) := by decide +kernel
theorem d_Law_law_382 : decode b_Law_law 382 = .ok (.iaload, 1) := by decide +kernel
theorem d_Law_law_383 : decode b_Law_law 383 = .ok (.i2c, 1) := by decide +kernel
theorem d_Law_law_384 : decode b_Law_law 384 = .ok (.aload_n 0, 1) := by decide +kernel
theorem d_Law_law_385 : decode b_Law_law 385 = .ok (.iload 4, 2) := by decide +kernel
theorem d_Law_law_387 : decode b_Law_law 387 = .ok (.iconst 2, 1) := by decide +kernel
theorem d_Law_law_388 : decode b_Law_law 388 = .ok (.iadd, 1) := by decide +kernel
theorem d_Law_law_389 : decode b_Law_law 389 = .ok (.iaload, 1) := by decide +kernel
theorem d_Law_law_390 : decode b_Law_law 390 = .ok (.aload_n 0, 1) := by decide +kernel
theorem d_Law_law_391 : decode b_Law_law 391 = .ok (.iload 4, 2) := by decide +kernel
theorem d_Law_law_393 : decode b_Law_law 393 = .ok (.iconst 3, 1) := by decide +kernel
theorem d_Law_law_394 : decode b_Law_law 394 = .ok (.iadd, 1) := by decide +kernel
theorem d_Law_law_395 : decode b_Law_law 395 = .ok (.iaload, 1) := by decide +kernel
theorem d_Law_law_396 : decode b_Law_law 396 = .ok (.aload_n 3, 1) := by decide +kernel
theorem d_Law_law_397 : decode b_Law_law 397 = .ok (.invokestatic 89, 3) := by decide +kernel
theorem d_Law_law_400 : decode b_Law_law 400 = .ok (.istore 5, 2) := by decide +kernel
theorem d_Law_law_402 : decode b_Law_law 402 = .ok (.aload_n 2, 1) := by decide +kernel
theorem d_Law_law_403 : decode b_Law_law 403 = .ok (.aload_n 0, 1) := by decide +kernel
theorem d_Law_law_404 : decode b_Law_law 404 = .ok (.iload 4, 2) := by decide +kernel
theorem d_Law_law_406 : decode b_Law_law 406 = .ok (.iconst 1, 1) := by decide +kernel
theorem d_Law_law_407 : decode b_Law_law 407 = .ok (.iadd, 1) := by decide +kernel
theorem d_Law_law_408 : decode b_Law_law 408 = .ok (.iaload, 1) := by decide +kernel
theorem d_Law_law_409 : decode b_Law_law 409 = .ok (.i2c, 1) := by decide +kernel
theorem d_Law_law_410 : decode b_Law_law 410 = .ok (.aload_n 0, 1) := by decide +kernel
theorem d_Law_law_411 : decode b_Law_law 411 = .ok (.iload 4, 2) := by decide +kernel
theorem d_Law_law_413 : decode b_Law_law 413 = .ok (.iconst 2, 1) := by decide +kernel
theorem d_Law_law_414 : decode b_Law_law 414 = .ok (.iadd, 1) := by decide +kernel
theorem d_Law_law_415 : decode b_Law_law 415 = .ok (.iaload, 1) := by decide +kernel
theorem d_Law_law_416 : decode b_Law_law 416 = .ok (.aload_n 0, 1) := by decide +kernel
theorem d_Law_law_417 : decode b_Law_law 417 = .ok (.iload 4, 2) := by decide +kernel
theorem d_Law_law_419 : decode b_Law_law 419 = .ok (.iconst 3, 1) := by decide +kernel
theorem d_Law_law_420 : decode b_Law_law 420 = .ok (.iadd, 1) := by decide +kernel
theorem d_Law_law_421 : decode b_Law_law 421 = .ok (.iaload, 1) := by decide +kernel
theorem d_Law_law_422 : decode b_Law_law 422 = .ok (.invokevirtual 92, 3) := by decide +kernel
theorem d_Law_law_425 : decode b_Law_law 425 = .ok (.lstore 6, 2) := by decide +kernel
theorem d_Law_law_427 : decode b_Law_law 427 = .ok (.aload_n 2, 1) := by decide +kernel
theorem d_Law_law_428 : decode b_Law_law 428 = .ok (.invokevirtual 74, 3) := by decide +kernel
theorem d_Law_law_431 : decode b_Law_law 431 = .ok (.iload 5, 2) := by decide +kernel
theorem d_Law_law_433 : decode b_Law_law 433 = .ok (.if_icmp .eq 5, 3) := by decide +kernel
theorem d_Law_law_436 : decode b_Law_law 436 = .ok (.iconst 0, 1) := by decide +kernel
theorem d_Law_law_437 : decode b_Law_law 437 = .ok (.ireturn, 1) := by decide +kernel
theorem d_Law_law_438 : decode b_Law_law 438 = .ok (.iload 5, 2) := by decide +kernel
theorem d_Law_law_440 : decode b_Law_law 440 = .ok (.ifCond .ne 14, 3) := by decide +kernel
theorem d_Law_law_443 : decode b_Law_law 443 = .ok (.aload_n 3, 1) := by decide +kernel
theorem d_Law_law_444 : decode b_Law_law 444 = .ok (.iconst 0, 1) := by decide +kernel
theorem d_Law_law_445 : decode b_Law_law 445 = .ok (.laload, 1) := by decide +kernel
theorem d_Law_law_446 : decode b_Law_law 446 = .ok (.lload 6, 2) := by decide +kernel
theorem d_Law_law_448 : decode b_Law_law 448 = .ok (.lcmp, 1) := by decide +kernel
theorem d_Law_law_449 : decode b_Law_law 449 = .ok (.ifCond .eq 5, 3) := by decide +kernel
theorem d_Law_law_452 : decode b_Law_law 452 = .ok (.iconst 0, 1) := by decide +kernel
theorem d_Law_law_453 : decode b_Law_law 453 = .ok (.ireturn, 1) := by decide +kernel
theorem d_Law_law_454 : decode b_Law_law 454 = .ok (.goto 195, 3) := by decide +kernel
theorem d_Law_law_457 : decode b_Law_law 457 = .ok (.aload_n 1, 1) := by decide +kernel
theorem d_Law_law_458 : decode b_Law_law 458 = .ok (.aload_n 0, 1) := by decide +kernel
theorem d_Law_law_459 : decode b_Law_law 459 = .ok (.iload 4, 2) := by decide +kernel
theorem d_Law_law_461 : decode b_Law_law 461 = .ok (.iconst 1, 1) := by decide +kernel
theorem d_Law_law_462 : decode b_Law_law 462 = .ok (.iadd, 1) := by decide +kernel
theorem d_Law_law_463 : decode b_Law_law 463 = .ok (.iaload, 1) := by decide +kernel
