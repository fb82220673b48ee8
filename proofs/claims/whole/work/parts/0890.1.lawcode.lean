theorem d_L_law_265 : decode cL_law 265 = .ok (.iload 6, 2) := by decide +kernel
theorem d_L_law_267 : decode cL_law 267 = .ok (.i2l, 1) := by decide +kernel
theorem d_L_law_268 : decode cL_law 268 = .ok (.lcmp, 1) := by decide +kernel
theorem d_L_law_269 : decode cL_law 269 = .ok (.ifCond .eq 5, 3) := by decide +kernel
theorem d_L_law_272 : decode cL_law 272 = .ok (.iconst 0, 1) := by decide +kernel
theorem d_L_law_273 : decode cL_law 273 = .ok (.ireturn, 1) := by decide +kernel
theorem d_L_law_274 : decode cL_law 274 = .ok (.goto 1193, 3) := by decide +kernel
theorem d_L_law_277 : decode cL_law 277 = .ok (.aload_n 1, 1) := by decide +kernel
theorem d_L_law_278 : decode cL_law 278 = .ok (.invokevirtual 89, 3) := by decide +kernel
theorem d_L_law_281 : decode cL_law 281 = .ok (.aload_n 2, 1) := by decide +kernel
theorem d_L_law_282 : decode cL_law 282 = .ok (.invokevirtual 92, 3) := by decide +kernel
theorem d_L_law_285 : decode cL_law 285 = .ok (.if_icmp .eq 1182, 3) := by decide +kernel
theorem d_L_law_288 : decode cL_law 288 = .ok (.iconst 0, 1) := by decide +kernel
theorem d_L_law_289 : decode cL_law 289 = .ok (.ireturn, 1) := by decide +kernel
theorem d_L_law_290 : decode cL_law 290 = .ok (.aload_n 1, 1) := by decide +kernel
theorem d_L_law_291 : decode cL_law 291 = .ok (.aload_n 0, 1) := by decide +kernel
theorem d_L_law_292 : decode cL_law 292 = .ok (.iload 4, 2) := by decide +kernel
theorem d_L_law_294 : decode cL_law 294 = .ok (.iconst 1, 1) := by decide +kernel
theorem d_L_law_295 : decode cL_law 295 = .ok (.iadd, 1) := by decide +kernel
theorem d_L_law_296 : decode cL_law 296 = .ok (.iaload, 1) := by decide +kernel
theorem d_L_law_297 : decode cL_law 297 = .ok (.aload_n 0, 1) := by decide +kernel
theorem d_L_law_298 : decode cL_law 298 = .ok (.iload 4, 2) := by decide +kernel
theorem d_L_law_300 : decode cL_law 300 = .ok (.iconst 2, 1) := by decide +kernel
theorem d_L_law_301 : decode cL_law 301 = .ok (.iadd, 1) := by decide +kernel
theorem d_L_law_302 : decode cL_law 302 = .ok (.iaload, 1) := by decide +kernel
theorem d_L_law_303 : decode cL_law 303 = .ok (.aload_n 0, 1) := by decide +kernel
theorem d_L_law_304 : decode cL_law 304 = .ok (.iload 4, 2) := by decide +kernel
theorem d_L_law_306 : decode cL_law 306 = .ok (.iconst 3, 1) := by decide +kernel
theorem d_L_law_307 : decode cL_law 307 = .ok (.iadd, 1) := by decide +kernel
theorem d_L_law_308 : decode cL_law 308 = .ok (.iaload, 1) := by decide +kernel
theorem d_L_law_309 : decode cL_law 309 = .ok (.aload_n 3, 1) := by decide +kernel
theorem d_L_law_310 : decode cL_law 310 = .ok (.invokestatic 93, 3) := by decide +kernel
theorem d_L_law_313 : decode cL_law 313 = .ok (.istore 5, 2) := by decide +kernel
theorem d_L_law_315 : decode cL_law 315 = .ok (.aload_n 2, 1) := by decide +kernel
theorem d_L_law_316 : decode cL_law 316 = .ok (.aload_n 0, 1) := by decide +kernel
theorem d_L_law_317 : decode cL_law 317 = .ok (.iload 4, 2) := by decide +kernel
theorem d_L_law_319 : decode cL_law 319 = .ok (.iconst 1, 1) := by decide +kernel
theorem d_L_law_320 : decode cL_law 320 = .ok (.iadd, 1) := by decide +kernel
theorem d_L_law_321 : decode cL_law 321 = .ok (.iaload, 1) := by decide +kernel
theorem d_L_law_322 : decode cL_law 322 = .ok (.aload_n 0, 1) := by decide +kernel
theorem d_L_law_323 : decode cL_law 323 = .ok (.iload 4, 2) := by decide +kernel
theorem d_L_law_325 : decode cL_law 325 = .ok (.iconst 2, 1) := by decide +kernel
theorem d_L_law_326 : decode cL_law 326 = .ok (.iadd, 1) := by decide +kernel
theorem d_L_law_327 : decode cL_law 327 = .ok (.iaload, 1) := by decide +kernel
theorem d_L_law_328 : decode cL_law 328 = .ok (.aload_n 0, 1) := by decide +kernel
theorem d_L_law_329 : decode cL_law 329 = .ok (.iload 4, 2) := by decide +kernel
theorem d_L_law_331 : decode cL_law 331 = .ok (.iconst 3, 1) := by decide +kernel
theorem d_L_law_332 : decode cL_law 332 = .ok (.iadd, 1) := by decide +kernel
theorem d_L_law_333 : decode cL_law 333 = .ok (.iaload, 1) := by decide +kernel
theorem d_L_law_334 : decode cL_law 334 = .ok (.invokevirtual 96, 3) := by decide +kernel
theorem d_L_law_337 : decode cL_law 337 = .ok (.istore 6, 2) := by decide +kernel
theorem d_L_law_339 : decode cL_law 339 = .ok (.aload_n 2, 1) := by decide +kernel
theorem d_L_law_340 : decode cL_law 340 = .ok (.invokevirtual 85, 3) := by decide +kernel
theorem d_L_law_343 : decode cL_law 343 = .ok (.iload 5, 2) := by decide +kernel
theorem d_L_law_345 : decode cL_law 345 = .ok (.if_icmp .eq 5, 3) := by decide +kernel
theorem d_L_law_348 : decode cL_law 348 = .ok (.iconst 0, 1) := by decide +kernel
theorem d_L_law_349 : decode cL_law 349 = .ok (.ireturn, 1) := by decide +kernel
theorem d_L_law_350 : decode cL_law 350 = .ok (.iload 5, 2) := by decide +kernel
theorem d_L_law_352 : decode cL_law 352 = .ok (.ifCond .ne 15, 3) := by decide +kernel
theorem d_L_law_355 : decode cL_law 355 = .ok (.aload_n 3, 1) := by decide +kernel
theorem d_L_law_356 : decode cL_law 356 = .ok (.iconst 0, 1) := by decide +kernel
theorem d_L_law_357 : decode cL_law 357 = .ok (.laload, 1) := by decide +kernel
theorem d_L_law_358 : decode cL_law 358 = .ok (.iload 6, 2) := by decide +kernel
theorem d_L_law_360 : decode cL_law 360 = .ok (.i2l, 1) := by decide +kernel
theorem d_L_law_361 : decode cL_law 361 = .ok (.lcmp, 1) := by decide +kernel
theorem d_L_law_362 : decode cL_law 362 = .ok (.ifCond .eq 5, 3) := by decide +kernel
theorem d_L_law_365 : decode cL_law 365 = .ok (.iconst 0, 1) := by decide +kernel
theorem d_L_law_366 : decode cL_law 366 = .ok (.ireturn, 1) := by decide +kernel
theorem d_L_law_367 : decode cL_law 367 = .ok (.goto 1100, 3) := by decide +kernel
theorem d_L_law_370 : decode cL_law 370 = .ok (.aload_n 1, 1) := by decide +kernel
theorem d_L_law_371 : decode cL_law 371 = .ok (.aload_n 0, 1) := by decide +kernel
theorem d_L_law_372 : decode cL_law 372 = .ok (.iload 4, 2) := by decide +kernel
theorem d_L_law_374 : decode cL_law 374 = .ok (.iconst 1, 1) := by decide +kernel
theorem d_L_law_375 : decode cL_law 375 = .ok (.iadd, 1) := by decide +kernel
theorem d_L_law_376 : decode cL_law 376 = .ok (.iaload, 1) := by decide +kernel
theorem d_L_law_377 : decode cL_law 377 = .ok (.aload_n 0, 1) := by decide +kernel
theorem d_L_law_378 : decode cL_law 378 = .ok (.iload 4, 2) := by decide +kernel
theorem d_L_law_380 : decode cL_law 380 = .ok (.iconst 2, 1) := by decide +kernel
theorem d_L_law_381 : decode cL_law 381 = .ok (.iadd, 1) := by decide +kernel
theorem d_L_law_382 : decode cL_law 382 = .ok (.iaload, 1) := by decide +kernel
theorem d_L_law_383 : decode cL_law 383 = .ok (.aload_n 3, 1) := by decide +kernel
theorem d_L_law_384 : decode cL_law 384 = .ok (.invokestatic 97, 3) := by decide +kernel
theorem d_L_law_387 : decode cL_law 387 = .ok (.istore 5, 2) := by decide +kernel
theorem d_L_law_389 : decode cL_law 389 = .ok (.aload_n 2, 1) := by decide +kernel
theorem d_L_law_390 : decode cL_law 390 = .ok (.aload_n 0, 1) := by decide +kernel
theorem d_L_law_391 : decode cL_law 391 = .ok (.iload 4, 2) := by decide +kernel
theorem d_L_law_393 : decode cL_law 393 = .ok (.iconst 1, 1) := by decide +kernel
theorem d_L_law_394 : decode cL_law 394 = .ok (.iadd, 1) := by decide +kernel
theorem d_L_law_395 : decode cL_law 395 = .ok (.iaload, 1) := by decide +kernel
theorem d_L_law_396 : decode cL_law 396 = .ok (.aload_n 0, 1) := by decide +kernel
theorem d_L_law_397 : decode cL_law 397 = .ok (.iload 4, 2) := by decide +kernel
theorem d_L_law_399 : decode cL_law 399 = .ok (.iconst 2, 1) := by decide +kernel
theorem d_L_law_400 : decode cL_law 400 = .ok (.iadd, 1) := by decide +kernel
theorem d_L_law_401 : decode cL_law 401 = .ok (.iaload, 1) := by decide +kernel
theorem d_L_law_402 : decode cL_law 402 = .ok (.invokevirtual 100, 3) := by decide +kernel
theorem d_L_law_405 : decode cL_law 405 = .ok (.istore 6, 2) := by decide +kernel
theorem d_L_law_407 : decode cL_law 407 = .ok (.aload_n 2, 1) := by decide +kernel
theorem d_L_law_408 : decode cL_law 408 = .ok (.invokevirtual 85, 3) := by decide +kernel
theorem d_L_law_411 : decode cL_law 411 = .ok (.iload 5, 2) := by decide +kernel
theorem d_L_law_413 : decode cL_law 413 = .ok (.if_icmp .eq 5, 3) := by decide +kernel
theorem d_L_law_416 : decode cL_law 416 = .ok (.iconst 0, 1) := by decide +kernel
theorem d_L_law_417 : decode cL_law 417 = .ok (.ireturn, 1) := by decide +kernel
theorem d_L_law_418 : decode cL_law 418 = .ok (.iload 5, 2) := by decide +kernel
theorem d_L_law_420 : decode cL_law 420 = .ok (.ifCond .ne 15, 3) := by decide +kernel
theorem d_L_law_423 : decode cL_law 423 = .ok (.aload_n 3, 1) := by decide +kernel
theorem d_L_law_424 : decode cL_law 424 = .ok (.iconst 0, 1) := by decide +kernel
theorem d_L_law_425 : decode cL_law 425 = .ok (.laload, 1) := by decide +kernel
theorem d_L_law_426 : decode cL_law 426 = .ok (.iload 6, 2) := by decide +kernel
theorem d_L_law_428 : decode cL_law 428 = .ok (.i2l, 1) := by decide +kernel
theorem d_L_law_429 : decode cL_law 429 = .ok (.lcmp, 1) := by decide +kernel
