theorem dL_law_0 : decode cL_law 0 = .ok (.new 7, 3) := by decide +kernel
theorem dL_law_3 : decode cL_law 3 = .ok (.dup, 1) := by decide +kernel
theorem dL_law_4 : decode cL_law 4 = .ok (.invokespecial 9, 3) := by decide +kernel
theorem dL_law_7 : decode cL_law 7 = .ok (.astore_n 1, 1) := by decide +kernel
theorem dL_law_8 : decode cL_law 8 = .ok (.new 10, 3) := by decide +kernel
theorem dL_law_11 : decode cL_law 11 = .ok (.dup, 1) := by decide +kernel
theorem dL_law_12 : decode cL_law 12 = .ok (.invokespecial 12, 3) := by decide +kernel
theorem dL_law_15 : decode cL_law 15 = .ok (.astore_n 2, 1) := by decide +kernel
theorem dL_law_16 : decode cL_law 16 = .ok (.iconst 0, 1) := by decide +kernel
theorem dL_law_17 : decode cL_law 17 = .ok (.istore_n 3, 1) := by decide +kernel
theorem dL_law_18 : decode cL_law 18 = .ok (.iload_n 3, 1) := by decide +kernel
theorem dL_law_19 : decode cL_law 19 = .ok (.aload_n 0, 1) := by decide +kernel
theorem dL_law_20 : decode cL_law 20 = .ok (.arraylength, 1) := by decide +kernel
theorem dL_law_21 : decode cL_law 21 = .ok (.bipush 6, 2) := by decide +kernel
theorem dL_law_23 : decode cL_law 23 = .ok (.isub, 1) := by decide +kernel
theorem dL_law_24 : decode cL_law 24 = .ok (.if_icmp .gt 1687, 3) := by decide +kernel
theorem dL_law_27 : decode cL_law 27 = .ok (.aload_n 0, 1) := by decide +kernel
theorem dL_law_28 : decode cL_law 28 = .ok (.iload_n 3, 1) := by decide +kernel
theorem dL_law_29 : decode cL_law 29 = .ok (.iaload, 1) := by decide +kernel
theorem dL_law_30 : decode cL_law 30 = .ok (.bipush 63, 2) := by decide +kernel
theorem dL_law_32 : decode cL_law 32 = .ok (.iand, 1) := by decide +kernel
theorem dL_law_33 : decode cL_law 33 = .ok (.tableswitch 1672 0 46 #[203, 246, 319, 382, 416, 449, 472, 505, 528, 581, 640, 683, 716, 749, 782, 815, 838, 861, 874, 897, 921, 954, 993, 1042, 1055, 1068, 1101, 1134, 1158, 1171, 1184, 1207, 1241, 1274, 1317, 1370, 1403, 1436, 1459, 1498, 1521, 1534, 1557, 1600, 1623, 1636, 1649], 203) := by decide +kernel
theorem dL_law_236 : decode cL_law 236 = .ok (.aload_n 1, 1) := by decide +kernel
theorem dL_law_237 : decode cL_law 237 = .ok (.aload_n 0, 1) := by decide +kernel
theorem dL_law_238 : decode cL_law 238 = .ok (.iload_n 3, 1) := by decide +kernel
theorem dL_law_239 : decode cL_law 239 = .ok (.iconst 1, 1) := by decide +kernel
theorem dL_law_240 : decode cL_law 240 = .ok (.iadd, 1) := by decide +kernel
theorem dL_law_241 : decode cL_law 241 = .ok (.iaload, 1) := by decide +kernel
theorem dL_law_242 : decode cL_law 242 = .ok (.aload_n 0, 1) := by decide +kernel
theorem dL_law_243 : decode cL_law 243 = .ok (.iload_n 3, 1) := by decide +kernel
theorem dL_law_244 : decode cL_law 244 = .ok (.iconst 2, 1) := by decide +kernel
theorem dL_law_245 : decode cL_law 245 = .ok (.iadd, 1) := by decide +kernel
theorem dL_law_246 : decode cL_law 246 = .ok (.iaload, 1) := by decide +kernel
theorem dL_law_247 : decode cL_law 247 = .ok (.aload_n 0, 1) := by decide +kernel
theorem dL_law_248 : decode cL_law 248 = .ok (.iload_n 3, 1) := by decide +kernel
theorem dL_law_249 : decode cL_law 249 = .ok (.iconst 3, 1) := by decide +kernel
theorem dL_law_250 : decode cL_law 250 = .ok (.iadd, 1) := by decide +kernel
theorem dL_law_251 : decode cL_law 251 = .ok (.iaload, 1) := by decide +kernel
theorem dL_law_252 : decode cL_law 252 = .ok (.invokevirtual 13, 3) := by decide +kernel
theorem dL_law_255 : decode cL_law 255 = .ok (.aload_n 2, 1) := by decide +kernel
theorem dL_law_256 : decode cL_law 256 = .ok (.aload_n 0, 1) := by decide +kernel
theorem dL_law_257 : decode cL_law 257 = .ok (.iload_n 3, 1) := by decide +kernel
theorem dL_law_258 : decode cL_law 258 = .ok (.iconst 1, 1) := by decide +kernel
theorem dL_law_259 : decode cL_law 259 = .ok (.iadd, 1) := by decide +kernel
theorem dL_law_260 : decode cL_law 260 = .ok (.iaload, 1) := by decide +kernel
theorem dL_law_261 : decode cL_law 261 = .ok (.aload_n 0, 1) := by decide +kernel
theorem dL_law_262 : decode cL_law 262 = .ok (.iload_n 3, 1) := by decide +kernel
theorem dL_law_263 : decode cL_law 263 = .ok (.iconst 2, 1) := by decide +kernel
theorem dL_law_264 : decode cL_law 264 = .ok (.iadd, 1) := by decide +kernel
theorem dL_law_265 : decode cL_law 265 = .ok (.iaload, 1) := by decide +kernel
theorem dL_law_266 : decode cL_law 266 = .ok (.aload_n 0, 1) := by decide +kernel
theorem dL_law_267 : decode cL_law 267 = .ok (.iload_n 3, 1) := by decide +kernel
theorem dL_law_268 : decode cL_law 268 = .ok (.iconst 3, 1) := by decide +kernel
theorem dL_law_269 : decode cL_law 269 = .ok (.iadd, 1) := by decide +kernel
theorem dL_law_270 : decode cL_law 270 = .ok (.iaload, 1) := by decide +kernel
theorem dL_law_271 : decode cL_law 271 = .ok (.invokevirtual 17, 3) := by decide +kernel
theorem dL_law_274 : decode cL_law 274 = .ok (.if_icmp .eq 1431, 3) := by decide +kernel
theorem dL_law_277 : decode cL_law 277 = .ok (.iconst 0, 1) := by decide +kernel
theorem dL_law_278 : decode cL_law 278 = .ok (.ireturn, 1) := by decide +kernel
theorem dL_law_279 : decode cL_law 279 = .ok (.aload_n 1, 1) := by decide +kernel
theorem dL_law_280 : decode cL_law 280 = .ok (.aload_n 0, 1) := by decide +kernel
theorem dL_law_281 : decode cL_law 281 = .ok (.iload_n 3, 1) := by decide +kernel
theorem dL_law_282 : decode cL_law 282 = .ok (.iconst 1, 1) := by decide +kernel
theorem dL_law_283 : decode cL_law 283 = .ok (.iadd, 1) := by decide +kernel
theorem dL_law_284 : decode cL_law 284 = .ok (.iaload, 1) := by decide +kernel
theorem dL_law_285 : decode cL_law 285 = .ok (.aload_n 0, 1) := by decide +kernel
theorem dL_law_286 : decode cL_law 286 = .ok (.iload_n 3, 1) := by decide +kernel
theorem dL_law_287 : decode cL_law 287 = .ok (.iconst 2, 1) := by decide +kernel
theorem dL_law_288 : decode cL_law 288 = .ok (.iadd, 1) := by decide +kernel
theorem dL_law_289 : decode cL_law 289 = .ok (.iaload, 1) := by decide +kernel
theorem dL_law_290 : decode cL_law 290 = .ok (.aload_n 0, 1) := by decide +kernel
theorem dL_law_291 : decode cL_law 291 = .ok (.iload_n 3, 1) := by decide +kernel
theorem dL_law_292 : decode cL_law 292 = .ok (.iconst 3, 1) := by decide +kernel
theorem dL_law_293 : decode cL_law 293 = .ok (.iadd, 1) := by decide +kernel
theorem dL_law_294 : decode cL_law 294 = .ok (.iaload, 1) := by decide +kernel
theorem dL_law_295 : decode cL_law 295 = .ok (.i2l, 1) := by decide +kernel
theorem dL_law_296 : decode cL_law 296 = .ok (.bipush 32, 2) := by decide +kernel
theorem dL_law_298 : decode cL_law 298 = .ok (.lshl, 1) := by decide +kernel
theorem dL_law_299 : decode cL_law 299 = .ok (.aload_n 0, 1) := by decide +kernel
theorem dL_law_300 : decode cL_law 300 = .ok (.iload_n 3, 1) := by decide +kernel
theorem dL_law_301 : decode cL_law 301 = .ok (.iconst 4, 1) := by decide +kernel
theorem dL_law_302 : decode cL_law 302 = .ok (.iadd, 1) := by decide +kernel
theorem dL_law_303 : decode cL_law 303 = .ok (.iaload, 1) := by decide +kernel
theorem dL_law_304 : decode cL_law 304 = .ok (.i2l, 1) := by decide +kernel
theorem dL_law_305 : decode cL_law 305 = .ok (.ldc2_w 18, 3) := by decide +kernel
theorem dL_law_308 : decode cL_law 308 = .ok (.land, 1) := by decide +kernel
theorem dL_law_309 : decode cL_law 309 = .ok (.lor, 1) := by decide +kernel
theorem dL_law_310 : decode cL_law 310 = .ok (.invokevirtual 20, 3) := by decide +kernel
theorem dL_law_313 : decode cL_law 313 = .ok (.aload_n 2, 1) := by decide +kernel
theorem dL_law_314 : decode cL_law 314 = .ok (.aload_n 0, 1) := by decide +kernel
theorem dL_law_315 : decode cL_law 315 = .ok (.iload_n 3, 1) := by decide +kernel
theorem dL_law_316 : decode cL_law 316 = .ok (.iconst 1, 1) := by decide +kernel
theorem dL_law_317 : decode cL_law 317 = .ok (.iadd, 1) := by decide +kernel
theorem dL_law_318 : decode cL_law 318 = .ok (.iaload, 1) := by decide +kernel
theorem dL_law_319 : decode cL_law 319 = .ok (.aload_n 0, 1) := by decide +kernel
theorem dL_law_320 : decode cL_law 320 = .ok (.iload_n 3, 1) := by decide +kernel
theorem dL_law_321 : decode cL_law 321 = .ok (.iconst 2, 1) := by decide +kernel
theorem dL_law_322 : decode cL_law 322 = .ok (.iadd, 1) := by decide +kernel
theorem dL_law_323 : decode cL_law 323 = .ok (.iaload, 1) := by decide +kernel
theorem dL_law_324 : decode cL_law 324 = .ok (.aload_n 0, 1) := by decide +kernel
theorem dL_law_325 : decode cL_law 325 = .ok (.iload_n 3, 1) := by decide +kernel
theorem dL_law_326 : decode cL_law 326 = .ok (.iconst 3, 1) := by decide +kernel
theorem dL_law_327 : decode cL_law 327 = .ok (.iadd, 1) := by decide +kernel
theorem dL_law_328 : decode cL_law 328 = .ok (.iaload, 1) := by decide +kernel
theorem dL_law_329 : decode cL_law 329 = .ok (.i2l, 1) := by decide +kernel
theorem dL_law_330 : decode cL_law 330 = .ok (.bipush 32, 2) := by decide +kernel
theorem dL_law_332 : decode cL_law 332 = .ok (.lshl, 1) := by decide +kernel
theorem dL_law_333 : decode cL_law 333 = .ok (.aload_n 0, 1) := by decide +kernel
theorem dL_law_334 : decode cL_law 334 = .ok (.iload_n 3, 1) := by decide +kernel
theorem dL_law_335 : decode cL_law 335 = .ok (.iconst 4, 1) := by decide +kernel
theorem dL_law_336 : decode cL_law 336 = .ok (.iadd, 1) := by decide +kernel
theorem dL_law_337 : decode cL_law 337 = .ok (.iaload, 1) := by decide +kernel
theorem dL_law_338 : decode cL_law 338 = .ok (.i2l, 1) := by decide +kernel
theorem dL_law_339 : decode cL_law 339 = .ok (.ldc2_w 18, 3) := by decide +kernel
theorem dL_law_342 : decode cL_law 342 = .ok (.land, 1) := by decide +kernel
theorem dL_law_343 : decode cL_law 343 = .ok (.lor, 1) := by decide +kernel
theorem dL_law_344 : decode cL_law 344 = .ok (.invokevirtual 24, 3) := by decide +kernel
theorem dL_law_347 : decode cL_law 347 = .ok (.if_icmp .eq 1358, 3) := by decide +kernel
theorem dL_law_350 : decode cL_law 350 = .ok (.iconst 0, 1) := by decide +kernel
theorem dL_law_351 : decode cL_law 351 = .ok (.ireturn, 1) := by decide +kernel
theorem dL_law_352 : decode cL_law 352 = .ok (.aload_n 1, 1) := by decide +kernel
theorem dL_law_353 : decode cL_law 353 = .ok (.aload_n 0, 1) := by decide +kernel
theorem dL_law_354 : decode cL_law 354 = .ok (.iload_n 3, 1) := by decide +kernel
theorem dL_law_355 : decode cL_law 355 = .ok (.iconst 1, 1) := by decide +kernel
theorem dL_law_356 : decode cL_law 356 = .ok (.iadd, 1) := by decide +kernel
theorem dL_law_357 : decode cL_law 357 = .ok (.iaload, 1) := by decide +kernel
theorem dL_law_358 : decode cL_law 358 = .ok (.aload_n 0, 1) := by decide +kernel
theorem dL_law_359 : decode cL_law 359 = .ok (.iload_n 3, 1) := by decide +kernel
theorem dL_law_360 : decode cL_law 360 = .ok (.iconst 2, 1) := by decide +kernel
theorem dL_law_361 : decode cL_law 361 = .ok (.iadd, 1) := by decide +kernel
theorem dL_law_362 : decode cL_law 362 = .ok (.iaload, 1) := by decide +kernel
theorem dL_law_363 : decode cL_law 363 = .ok (.aload_n 0, 1) := by decide +kernel
theorem dL_law_364 : decode cL_law 364 = .ok (.iload_n 3, 1) := by decide +kernel
theorem dL_law_365 : decode cL_law 365 = .ok (.iconst 3, 1) := by decide +kernel
theorem dL_law_366 : decode cL_law 366 = .ok (.iadd, 1) := by decide +kernel
theorem dL_law_367 : decode cL_law 367 = .ok (.iaload, 1) := by decide +kernel
theorem dL_law_368 : decode cL_law 368 = .ok (.aload_n 0, 1) := by decide +kernel
theorem dL_law_369 : decode cL_law 369 = .ok (.iload_n 3, 1) := by decide +kernel
theorem dL_law_370 : decode cL_law 370 = .ok (.iconst 4, 1) := by decide +kernel
theorem dL_law_371 : decode cL_law 371 = .ok (.iadd, 1) := by decide +kernel
theorem dL_law_372 : decode cL_law 372 = .ok (.iaload, 1) := by decide +kernel
theorem dL_law_373 : decode cL_law 373 = .ok (.aload_n 0, 1) := by decide +kernel
theorem dL_law_374 : decode cL_law 374 = .ok (.iload_n 3, 1) := by decide +kernel
theorem dL_law_375 : decode cL_law 375 = .ok (.iconst 5, 1) := by decide +kernel
theorem dL_law_376 : decode cL_law 376 = .ok (.iadd, 1) := by decide +kernel
theorem dL_law_377 : decode cL_law 377 = .ok (.iaload, 1) := by decide +kernel
theorem dL_law_378 : decode cL_law 378 = .ok (.invokevirtual 25, 3) := by decide +kernel
theorem dL_law_381 : decode cL_law 381 = .ok (.aload_n 2, 1) := by decide +kernel
theorem dL_law_382 : decode cL_law 382 = .ok (.aload_n 0, 1) := by decide +kernel
theorem dL_law_383 : decode cL_law 383 = .ok (.iload_n 3, 1) := by decide +kernel
theorem dL_law_384 : decode cL_law 384 = .ok (.iconst 1, 1) := by decide +kernel
theorem dL_law_385 : decode cL_law 385 = .ok (.iadd, 1) := by decide +kernel
theorem dL_law_386 : decode cL_law 386 = .ok (.iaload, 1) := by decide +kernel
theorem dL_law_387 : decode cL_law 387 = .ok (.aload_n 0, 1) := by decide +kernel
theorem dL_law_388 : decode cL_law 388 = .ok (.iload_n 3, 1) := by decide +kernel
theorem dL_law_389 : decode cL_law 389 = .ok (.iconst 2, 1) := by decide +kernel
theorem dL_law_390 : decode cL_law 390 = .ok (.iadd, 1) := by decide +kernel
theorem dL_law_391 : decode cL_law 391 = .ok (.iaload, 1) := by decide +kernel
theorem dL_law_392 : decode cL_law 392 = .ok (.aload_n 0, 1) := by decide +kernel
theorem dL_law_393 : decode cL_law 393 = .ok (.iload_n 3, 1) := by decide +kernel
theorem dL_law_394 : decode cL_law 394 = .ok (.iconst 3, 1) := by decide +kernel
theorem dL_law_395 : decode cL_law 395 = .ok (.iadd, 1) := by decide +kernel
theorem dL_law_396 : decode cL_law 396 = .ok (.iaload, 1) := by decide +kernel
theorem dL_law_397 : decode cL_law 397 = .ok (.aload_n 0, 1) := by decide +kernel
theorem dL_law_398 : decode cL_law 398 = .ok (.iload_n 3, 1) := by decide +kernel
theorem dL_law_399 : decode cL_law 399 = .ok (.iconst 4, 1) := by decide +kernel
theorem dL_law_400 : decode cL_law 400 = .ok (.iadd, 1) := by decide +kernel
theorem dL_law_401 : decode cL_law 401 = .ok (.iaload, 1) := by decide +kernel
theorem dL_law_402 : decode cL_law 402 = .ok (.aload_n 0, 1) := by decide +kernel
theorem dL_law_403 : decode cL_law 403 = .ok (.iload_n 3, 1) := by decide +kernel
theorem dL_law_404 : decode cL_law 404 = .ok (.iconst 5, 1) := by decide +kernel
theorem dL_law_405 : decode cL_law 405 = .ok (.iadd, 1) := by decide +kernel
theorem dL_law_406 : decode cL_law 406 = .ok (.iaload, 1) := by decide +kernel
theorem dL_law_407 : decode cL_law 407 = .ok (.invokevirtual 29, 3) := by decide +kernel
theorem dL_law_410 : decode cL_law 410 = .ok (.if_icmp .eq 1295, 3) := by decide +kernel
theorem dL_law_413 : decode cL_law 413 = .ok (.iconst 0, 1) := by decide +kernel
theorem dL_law_414 : decode cL_law 414 = .ok (.ireturn, 1) := by decide +kernel
theorem dL_law_415 : decode cL_law 415 = .ok (.aload_n 1, 1) := by decide +kernel
theorem dL_law_416 : decode cL_law 416 = .ok (.aload_n 0, 1) := by decide +kernel
theorem dL_law_417 : decode cL_law 417 = .ok (.iload_n 3, 1) := by decide +kernel
theorem dL_law_418 : decode cL_law 418 = .ok (.iconst 1, 1) := by decide +kernel
theorem dL_law_419 : decode cL_law 419 = .ok (.iadd, 1) := by decide +kernel
theorem dL_law_420 : decode cL_law 420 = .ok (.iaload, 1) := by decide +kernel
theorem dL_law_421 : decode cL_law 421 = .ok (.aload_n 0, 1) := by decide +kernel
theorem dL_law_422 : decode cL_law 422 = .ok (.iload_n 3, 1) := by decide +kernel
theorem dL_law_423 : decode cL_law 423 = .ok (.iconst 2, 1) := by decide +kernel
theorem dL_law_424 : decode cL_law 424 = .ok (.iadd, 1) := by decide +kernel
theorem dL_law_425 : decode cL_law 425 = .ok (.iaload, 1) := by decide +kernel
theorem dL_law_426 : decode cL_law 426 = .ok (.invokevirtual 30, 3) := by decide +kernel
theorem dL_law_429 : decode cL_law 429 = .ok (.aload_n 2, 1) := by decide +kernel
theorem dL_law_430 : decode cL_law 430 = .ok (.aload_n 0, 1) := by decide +kernel
theorem dL_law_431 : decode cL_law 431 = .ok (.iload_n 3, 1) := by decide +kernel
theorem dL_law_432 : decode cL_law 432 = .ok (.iconst 1, 1) := by decide +kernel
theorem dL_law_433 : decode cL_law 433 = .ok (.iadd, 1) := by decide +kernel
theorem dL_law_434 : decode cL_law 434 = .ok (.iaload, 1) := by decide +kernel
theorem dL_law_435 : decode cL_law 435 = .ok (.aload_n 0, 1) := by decide +kernel
theorem dL_law_436 : decode cL_law 436 = .ok (.iload_n 3, 1) := by decide +kernel
theorem dL_law_437 : decode cL_law 437 = .ok (.iconst 2, 1) := by decide +kernel
theorem dL_law_438 : decode cL_law 438 = .ok (.iadd, 1) := by decide +kernel
theorem dL_law_439 : decode cL_law 439 = .ok (.iaload, 1) := by decide +kernel
theorem dL_law_440 : decode cL_law 440 = .ok (.invokevirtual 34, 3) := by decide +kernel
theorem dL_law_443 : decode cL_law 443 = .ok (.lcmp, 1) := by decide +kernel
theorem dL_law_444 : decode cL_law 444 = .ok (.ifCond .eq 1261, 3) := by decide +kernel
theorem dL_law_447 : decode cL_law 447 = .ok (.iconst 0, 1) := by decide +kernel
theorem dL_law_448 : decode cL_law 448 = .ok (.ireturn, 1) := by decide +kernel
theorem dL_law_449 : decode cL_law 449 = .ok (.aload_n 1, 1) := by decide +kernel
theorem dL_law_450 : decode cL_law 450 = .ok (.aload_n 0, 1) := by decide +kernel
theorem dL_law_451 : decode cL_law 451 = .ok (.iload_n 3, 1) := by decide +kernel
theorem dL_law_452 : decode cL_law 452 = .ok (.iconst 1, 1) := by decide +kernel
theorem dL_law_453 : decode cL_law 453 = .ok (.iadd, 1) := by decide +kernel
theorem dL_law_454 : decode cL_law 454 = .ok (.iaload, 1) := by decide +kernel
theorem dL_law_455 : decode cL_law 455 = .ok (.aload_n 0, 1) := by decide +kernel
theorem dL_law_456 : decode cL_law 456 = .ok (.iload_n 3, 1) := by decide +kernel
theorem dL_law_457 : decode cL_law 457 = .ok (.iconst 2, 1) := by decide +kernel
theorem dL_law_458 : decode cL_law 458 = .ok (.iadd, 1) := by decide +kernel
theorem dL_law_459 : decode cL_law 459 = .ok (.iaload, 1) := by decide +kernel
theorem dL_law_460 : decode cL_law 460 = .ok (.invokevirtual 35, 3) := by decide +kernel
theorem dL_law_463 : decode cL_law 463 = .ok (.aload_n 2, 1) := by decide +kernel
theorem dL_law_464 : decode cL_law 464 = .ok (.aload_n 0, 1) := by decide +kernel
theorem dL_law_465 : decode cL_law 465 = .ok (.iload_n 3, 1) := by decide +kernel
theorem dL_law_466 : decode cL_law 466 = .ok (.iconst 1, 1) := by decide +kernel
theorem dL_law_467 : decode cL_law 467 = .ok (.iadd, 1) := by decide +kernel
theorem dL_law_468 : decode cL_law 468 = .ok (.iaload, 1) := by decide +kernel
theorem dL_law_469 : decode cL_law 469 = .ok (.aload_n 0, 1) := by decide +kernel
theorem dL_law_470 : decode cL_law 470 = .ok (.iload_n 3, 1) := by decide +kernel
theorem dL_law_471 : decode cL_law 471 = .ok (.iconst 2, 1) := by decide +kernel
theorem dL_law_472 : decode cL_law 472 = .ok (.iadd, 1) := by decide +kernel
theorem dL_law_473 : decode cL_law 473 = .ok (.iaload, 1) := by decide +kernel
theorem dL_law_474 : decode cL_law 474 = .ok (.invokevirtual 39, 3) := by decide +kernel
theorem dL_law_477 : decode cL_law 477 = .ok (.if_icmp .eq 1228, 3) := by decide +kernel
theorem dL_law_480 : decode cL_law 480 = .ok (.iconst 0, 1) := by decide +kernel
theorem dL_law_481 : decode cL_law 481 = .ok (.ireturn, 1) := by decide +kernel
theorem dL_law_482 : decode cL_law 482 = .ok (.aload_n 1, 1) := by decide +kernel
theorem dL_law_483 : decode cL_law 483 = .ok (.aload_n 0, 1) := by decide +kernel
theorem dL_law_484 : decode cL_law 484 = .ok (.iload_n 3, 1) := by decide +kernel
theorem dL_law_485 : decode cL_law 485 = .ok (.iconst 1, 1) := by decide +kernel
theorem dL_law_486 : decode cL_law 486 = .ok (.iadd, 1) := by decide +kernel
theorem dL_law_487 : decode cL_law 487 = .ok (.iaload, 1) := by decide +kernel
theorem dL_law_488 : decode cL_law 488 = .ok (.invokevirtual 40, 3) := by decide +kernel
theorem dL_law_491 : decode cL_law 491 = .ok (.aload_n 2, 1) := by decide +kernel
theorem dL_law_492 : decode cL_law 492 = .ok (.aload_n 0, 1) := by decide +kernel
theorem dL_law_493 : decode cL_law 493 = .ok (.iload_n 3, 1) := by decide +kernel
theorem dL_law_494 : decode cL_law 494 = .ok (.iconst 1, 1) := by decide +kernel
theorem dL_law_495 : decode cL_law 495 = .ok (.iadd, 1) := by decide +kernel
theorem dL_law_496 : decode cL_law 496 = .ok (.iaload, 1) := by decide +kernel
theorem dL_law_497 : decode cL_law 497 = .ok (.invokevirtual 44, 3) := by decide +kernel
theorem dL_law_500 : decode cL_law 500 = .ok (.if_icmp .eq 1205, 3) := by decide +kernel
theorem dL_law_503 : decode cL_law 503 = .ok (.iconst 0, 1) := by decide +kernel
theorem dL_law_504 : decode cL_law 504 = .ok (.ireturn, 1) := by decide +kernel
theorem dL_law_505 : decode cL_law 505 = .ok (.aload_n 1, 1) := by decide +kernel
theorem dL_law_506 : decode cL_law 506 = .ok (.aload_n 0, 1) := by decide +kernel
theorem dL_law_507 : decode cL_law 507 = .ok (.iload_n 3, 1) := by decide +kernel
theorem dL_law_508 : decode cL_law 508 = .ok (.iconst 1, 1) := by decide +kernel
theorem dL_law_509 : decode cL_law 509 = .ok (.iadd, 1) := by decide +kernel
theorem dL_law_510 : decode cL_law 510 = .ok (.iaload, 1) := by decide +kernel
theorem dL_law_511 : decode cL_law 511 = .ok (.aload_n 0, 1) := by decide +kernel
theorem dL_law_512 : decode cL_law 512 = .ok (.iload_n 3, 1) := by decide +kernel
theorem dL_law_513 : decode cL_law 513 = .ok (.iconst 2, 1) := by decide +kernel
theorem dL_law_514 : decode cL_law 514 = .ok (.iadd, 1) := by decide +kernel
theorem dL_law_515 : decode cL_law 515 = .ok (.iaload, 1) := by decide +kernel
theorem dL_law_516 : decode cL_law 516 = .ok (.invokevirtual 45, 3) := by decide +kernel
theorem dL_law_519 : decode cL_law 519 = .ok (.aload_n 2, 1) := by decide +kernel
theorem dL_law_520 : decode cL_law 520 = .ok (.aload_n 0, 1) := by decide +kernel
theorem dL_law_521 : decode cL_law 521 = .ok (.iload_n 3, 1) := by decide +kernel
theorem dL_law_522 : decode cL_law 522 = .ok (.iconst 1, 1) := by decide +kernel
theorem dL_law_523 : decode cL_law 523 = .ok (.iadd, 1) := by decide +kernel
theorem dL_law_524 : decode cL_law 524 = .ok (.iaload, 1) := by decide +kernel
theorem dL_law_525 : decode cL_law 525 = .ok (.aload_n 0, 1) := by decide +kernel
theorem dL_law_526 : decode cL_law 526 = .ok (.iload_n 3, 1) := by decide +kernel
theorem dL_law_527 : decode cL_law 527 = .ok (.iconst 2, 1) := by decide +kernel
theorem dL_law_528 : decode cL_law 528 = .ok (.iadd, 1) := by decide +kernel
theorem dL_law_529 : decode cL_law 529 = .ok (.iaload, 1) := by decide +kernel
theorem dL_law_530 : decode cL_law 530 = .ok (.invokevirtual 48, 3) := by decide +kernel
theorem dL_law_533 : decode cL_law 533 = .ok (.if_icmp .eq 1172, 3) := by decide +kernel
theorem dL_law_536 : decode cL_law 536 = .ok (.iconst 0, 1) := by decide +kernel
theorem dL_law_537 : decode cL_law 537 = .ok (.ireturn, 1) := by decide +kernel
theorem dL_law_538 : decode cL_law 538 = .ok (.aload_n 1, 1) := by decide +kernel
theorem dL_law_539 : decode cL_law 539 = .ok (.aload_n 0, 1) := by decide +kernel
theorem dL_law_540 : decode cL_law 540 = .ok (.iload_n 3, 1) := by decide +kernel
theorem dL_law_541 : decode cL_law 541 = .ok (.iconst 1, 1) := by decide +kernel
theorem dL_law_542 : decode cL_law 542 = .ok (.iadd, 1) := by decide +kernel
theorem dL_law_543 : decode cL_law 543 = .ok (.iaload, 1) := by decide +kernel
theorem dL_law_544 : decode cL_law 544 = .ok (.invokevirtual 49, 3) := by decide +kernel
theorem dL_law_547 : decode cL_law 547 = .ok (.aload_n 2, 1) := by decide +kernel
theorem dL_law_548 : decode cL_law 548 = .ok (.aload_n 0, 1) := by decide +kernel
theorem dL_law_549 : decode cL_law 549 = .ok (.iload_n 3, 1) := by decide +kernel
theorem dL_law_550 : decode cL_law 550 = .ok (.iconst 1, 1) := by decide +kernel
theorem dL_law_551 : decode cL_law 551 = .ok (.iadd, 1) := by decide +kernel
theorem dL_law_552 : decode cL_law 552 = .ok (.iaload, 1) := by decide +kernel
theorem dL_law_553 : decode cL_law 553 = .ok (.invokevirtual 52, 3) := by decide +kernel
theorem dL_law_556 : decode cL_law 556 = .ok (.if_icmp .eq 1149, 3) := by decide +kernel
theorem dL_law_559 : decode cL_law 559 = .ok (.iconst 0, 1) := by decide +kernel
theorem dL_law_560 : decode cL_law 560 = .ok (.ireturn, 1) := by decide +kernel
theorem dL_law_561 : decode cL_law 561 = .ok (.aload_n 1, 1) := by decide +kernel
theorem dL_law_562 : decode cL_law 562 = .ok (.aload_n 0, 1) := by decide +kernel
theorem dL_law_563 : decode cL_law 563 = .ok (.iload_n 3, 1) := by decide +kernel
theorem dL_law_564 : decode cL_law 564 = .ok (.iconst 1, 1) := by decide +kernel
theorem dL_law_565 : decode cL_law 565 = .ok (.iadd, 1) := by decide +kernel
theorem dL_law_566 : decode cL_law 566 = .ok (.iaload, 1) := by decide +kernel
theorem dL_law_567 : decode cL_law 567 = .ok (.aload_n 0, 1) := by decide +kernel
theorem dL_law_568 : decode cL_law 568 = .ok (.iload_n 3, 1) := by decide +kernel
theorem dL_law_569 : decode cL_law 569 = .ok (.iconst 2, 1) := by decide +kernel
theorem dL_law_570 : decode cL_law 570 = .ok (.iadd, 1) := by decide +kernel
theorem dL_law_571 : decode cL_law 571 = .ok (.iaload, 1) := by decide +kernel
theorem dL_law_572 : decode cL_law 572 = .ok (.aload_n 0, 1) := by decide +kernel
theorem dL_law_573 : decode cL_law 573 = .ok (.iload_n 3, 1) := by decide +kernel
theorem dL_law_574 : decode cL_law 574 = .ok (.iconst 3, 1) := by decide +kernel
theorem dL_law_575 : decode cL_law 575 = .ok (.iadd, 1) := by decide +kernel
theorem dL_law_576 : decode cL_law 576 = .ok (.iaload, 1) := by decide +kernel
theorem dL_law_577 : decode cL_law 577 = .ok (.aload_n 0, 1) := by decide +kernel
theorem dL_law_578 : decode cL_law 578 = .ok (.iload_n 3, 1) := by decide +kernel
theorem dL_law_579 : decode cL_law 579 = .ok (.iconst 4, 1) := by decide +kernel
theorem dL_law_580 : decode cL_law 580 = .ok (.iadd, 1) := by decide +kernel
theorem dL_law_581 : decode cL_law 581 = .ok (.iaload, 1) := by decide +kernel
theorem dL_law_582 : decode cL_law 582 = .ok (.invokevirtual 53, 3) := by decide +kernel
theorem dL_law_585 : decode cL_law 585 = .ok (.aload_n 2, 1) := by decide +kernel
theorem dL_law_586 : decode cL_law 586 = .ok (.aload_n 0, 1) := by decide +kernel
theorem dL_law_587 : decode cL_law 587 = .ok (.iload_n 3, 1) := by decide +kernel
theorem dL_law_588 : decode cL_law 588 = .ok (.iconst 1, 1) := by decide +kernel
theorem dL_law_589 : decode cL_law 589 = .ok (.iadd, 1) := by decide +kernel
theorem dL_law_590 : decode cL_law 590 = .ok (.iaload, 1) := by decide +kernel
theorem dL_law_591 : decode cL_law 591 = .ok (.aload_n 0, 1) := by decide +kernel
theorem dL_law_592 : decode cL_law 592 = .ok (.iload_n 3, 1) := by decide +kernel
theorem dL_law_593 : decode cL_law 593 = .ok (.iconst 2, 1) := by decide +kernel
theorem dL_law_594 : decode cL_law 594 = .ok (.iadd, 1) := by decide +kernel
theorem dL_law_595 : decode cL_law 595 = .ok (.iaload, 1) := by decide +kernel
theorem dL_law_596 : decode cL_law 596 = .ok (.aload_n 0, 1) := by decide +kernel
theorem dL_law_597 : decode cL_law 597 = .ok (.iload_n 3, 1) := by decide +kernel
theorem dL_law_598 : decode cL_law 598 = .ok (.iconst 3, 1) := by decide +kernel
theorem dL_law_599 : decode cL_law 599 = .ok (.iadd, 1) := by decide +kernel
theorem dL_law_600 : decode cL_law 600 = .ok (.iaload, 1) := by decide +kernel
theorem dL_law_601 : decode cL_law 601 = .ok (.aload_n 0, 1) := by decide +kernel
theorem dL_law_602 : decode cL_law 602 = .ok (.iload_n 3, 1) := by decide +kernel
theorem dL_law_603 : decode cL_law 603 = .ok (.iconst 4, 1) := by decide +kernel
theorem dL_law_604 : decode cL_law 604 = .ok (.iadd, 1) := by decide +kernel
theorem dL_law_605 : decode cL_law 605 = .ok (.iaload, 1) := by decide +kernel
theorem dL_law_606 : decode cL_law 606 = .ok (.invokevirtual 57, 3) := by decide +kernel
theorem dL_law_609 : decode cL_law 609 = .ok (.if_icmp .eq 1096, 3) := by decide +kernel
theorem dL_law_612 : decode cL_law 612 = .ok (.iconst 0, 1) := by decide +kernel
theorem dL_law_613 : decode cL_law 613 = .ok (.ireturn, 1) := by decide +kernel
theorem dL_law_614 : decode cL_law 614 = .ok (.aload_n 1, 1) := by decide +kernel
theorem dL_law_615 : decode cL_law 615 = .ok (.aload_n 0, 1) := by decide +kernel
theorem dL_law_616 : decode cL_law 616 = .ok (.iload_n 3, 1) := by decide +kernel
theorem dL_law_617 : decode cL_law 617 = .ok (.iconst 1, 1) := by decide +kernel
theorem dL_law_618 : decode cL_law 618 = .ok (.iadd, 1) := by decide +kernel
theorem dL_law_619 : decode cL_law 619 = .ok (.iaload, 1) := by decide +kernel
theorem dL_law_620 : decode cL_law 620 = .ok (.aload_n 0, 1) := by decide +kernel
theorem dL_law_621 : decode cL_law 621 = .ok (.iload_n 3, 1) := by decide +kernel
theorem dL_law_622 : decode cL_law 622 = .ok (.iconst 2, 1) := by decide +kernel
theorem dL_law_623 : decode cL_law 623 = .ok (.iadd, 1) := by decide +kernel
theorem dL_law_624 : decode cL_law 624 = .ok (.iaload, 1) := by decide +kernel
theorem dL_law_625 : decode cL_law 625 = .ok (.ifCond .eq 7, 3) := by decide +kernel
theorem dL_law_628 : decode cL_law 628 = .ok (.iconst 1, 1) := by decide +kernel
theorem dL_law_629 : decode cL_law 629 = .ok (.goto 4, 3) := by decide +kernel
theorem dL_law_632 : decode cL_law 632 = .ok (.iconst 0, 1) := by decide +kernel
theorem dL_law_633 : decode cL_law 633 = .ok (.aload_n 0, 1) := by decide +kernel
theorem dL_law_634 : decode cL_law 634 = .ok (.iload_n 3, 1) := by decide +kernel
theorem dL_law_635 : decode cL_law 635 = .ok (.iconst 3, 1) := by decide +kernel
theorem dL_law_636 : decode cL_law 636 = .ok (.iadd, 1) := by decide +kernel
theorem dL_law_637 : decode cL_law 637 = .ok (.iaload, 1) := by decide +kernel
theorem dL_law_638 : decode cL_law 638 = .ok (.invokevirtual 58, 3) := by decide +kernel
theorem dL_law_641 : decode cL_law 641 = .ok (.aload_n 2, 1) := by decide +kernel
theorem dL_law_642 : decode cL_law 642 = .ok (.aload_n 0, 1) := by decide +kernel
theorem dL_law_643 : decode cL_law 643 = .ok (.iload_n 3, 1) := by decide +kernel
theorem dL_law_644 : decode cL_law 644 = .ok (.iconst 1, 1) := by decide +kernel
theorem dL_law_645 : decode cL_law 645 = .ok (.iadd, 1) := by decide +kernel
theorem dL_law_646 : decode cL_law 646 = .ok (.iaload, 1) := by decide +kernel
theorem dL_law_647 : decode cL_law 647 = .ok (.aload_n 0, 1) := by decide +kernel
theorem dL_law_648 : decode cL_law 648 = .ok (.iload_n 3, 1) := by decide +kernel
theorem dL_law_649 : decode cL_law 649 = .ok (.iconst 2, 1) := by decide +kernel
theorem dL_law_650 : decode cL_law 650 = .ok (.iadd, 1) := by decide +kernel
theorem dL_law_651 : decode cL_law 651 = .ok (.iaload, 1) := by decide +kernel
theorem dL_law_652 : decode cL_law 652 = .ok (.ifCond .eq 7, 3) := by decide +kernel
theorem dL_law_655 : decode cL_law 655 = .ok (.iconst 1, 1) := by decide +kernel
theorem dL_law_656 : decode cL_law 656 = .ok (.goto 4, 3) := by decide +kernel
theorem dL_law_659 : decode cL_law 659 = .ok (.iconst 0, 1) := by decide +kernel
theorem dL_law_660 : decode cL_law 660 = .ok (.aload_n 0, 1) := by decide +kernel
theorem dL_law_661 : decode cL_law 661 = .ok (.iload_n 3, 1) := by decide +kernel
theorem dL_law_662 : decode cL_law 662 = .ok (.iconst 3, 1) := by decide +kernel
theorem dL_law_663 : decode cL_law 663 = .ok (.iadd, 1) := by decide +kernel
theorem dL_law_664 : decode cL_law 664 = .ok (.iaload, 1) := by decide +kernel
theorem dL_law_665 : decode cL_law 665 = .ok (.invokevirtual 62, 3) := by decide +kernel
theorem dL_law_668 : decode cL_law 668 = .ok (.if_icmp .eq 1037, 3) := by decide +kernel
theorem dL_law_671 : decode cL_law 671 = .ok (.iconst 0, 1) := by decide +kernel
theorem dL_law_672 : decode cL_law 672 = .ok (.ireturn, 1) := by decide +kernel
theorem dL_law_673 : decode cL_law 673 = .ok (.aload_n 1, 1) := by decide +kernel
theorem dL_law_674 : decode cL_law 674 = .ok (.aload_n 0, 1) := by decide +kernel
theorem dL_law_675 : decode cL_law 675 = .ok (.iload_n 3, 1) := by decide +kernel
theorem dL_law_676 : decode cL_law 676 = .ok (.iconst 1, 1) := by decide +kernel
theorem dL_law_677 : decode cL_law 677 = .ok (.iadd, 1) := by decide +kernel
theorem dL_law_678 : decode cL_law 678 = .ok (.iaload, 1) := by decide +kernel
theorem dL_law_679 : decode cL_law 679 = .ok (.aload_n 0, 1) := by decide +kernel
theorem dL_law_680 : decode cL_law 680 = .ok (.iload_n 3, 1) := by decide +kernel
theorem dL_law_681 : decode cL_law 681 = .ok (.iconst 2, 1) := by decide +kernel
theorem dL_law_682 : decode cL_law 682 = .ok (.iadd, 1) := by decide +kernel
theorem dL_law_683 : decode cL_law 683 = .ok (.iaload, 1) := by decide +kernel
theorem dL_law_684 : decode cL_law 684 = .ok (.aload_n 0, 1) := by decide +kernel
theorem dL_law_685 : decode cL_law 685 = .ok (.iload_n 3, 1) := by decide +kernel
theorem dL_law_686 : decode cL_law 686 = .ok (.iconst 3, 1) := by decide +kernel
theorem dL_law_687 : decode cL_law 687 = .ok (.iadd, 1) := by decide +kernel
theorem dL_law_688 : decode cL_law 688 = .ok (.iaload, 1) := by decide +kernel
theorem dL_law_689 : decode cL_law 689 = .ok (.invokevirtual 63, 3) := by decide +kernel
theorem dL_law_692 : decode cL_law 692 = .ok (.aload_n 2, 1) := by decide +kernel
theorem dL_law_693 : decode cL_law 693 = .ok (.aload_n 0, 1) := by decide +kernel
theorem dL_law_694 : decode cL_law 694 = .ok (.iload_n 3, 1) := by decide +kernel
theorem dL_law_695 : decode cL_law 695 = .ok (.iconst 1, 1) := by decide +kernel
theorem dL_law_696 : decode cL_law 696 = .ok (.iadd, 1) := by decide +kernel
theorem dL_law_697 : decode cL_law 697 = .ok (.iaload, 1) := by decide +kernel
theorem dL_law_698 : decode cL_law 698 = .ok (.aload_n 0, 1) := by decide +kernel
theorem dL_law_699 : decode cL_law 699 = .ok (.iload_n 3, 1) := by decide +kernel
theorem dL_law_700 : decode cL_law 700 = .ok (.iconst 2, 1) := by decide +kernel
theorem dL_law_701 : decode cL_law 701 = .ok (.iadd, 1) := by decide +kernel
theorem dL_law_702 : decode cL_law 702 = .ok (.iaload, 1) := by decide +kernel
theorem dL_law_703 : decode cL_law 703 = .ok (.aload_n 0, 1) := by decide +kernel
theorem dL_law_704 : decode cL_law 704 = .ok (.iload_n 3, 1) := by decide +kernel
theorem dL_law_705 : decode cL_law 705 = .ok (.iconst 3, 1) := by decide +kernel
theorem dL_law_706 : decode cL_law 706 = .ok (.iadd, 1) := by decide +kernel
theorem dL_law_707 : decode cL_law 707 = .ok (.iaload, 1) := by decide +kernel
theorem dL_law_708 : decode cL_law 708 = .ok (.invokevirtual 66, 3) := by decide +kernel
theorem dL_law_711 : decode cL_law 711 = .ok (.if_icmp .eq 994, 3) := by decide +kernel
theorem dL_law_714 : decode cL_law 714 = .ok (.iconst 0, 1) := by decide +kernel
theorem dL_law_715 : decode cL_law 715 = .ok (.ireturn, 1) := by decide +kernel
theorem dL_law_716 : decode cL_law 716 = .ok (.aload_n 1, 1) := by decide +kernel
theorem dL_law_717 : decode cL_law 717 = .ok (.aload_n 0, 1) := by decide +kernel
theorem dL_law_718 : decode cL_law 718 = .ok (.iload_n 3, 1) := by decide +kernel
theorem dL_law_719 : decode cL_law 719 = .ok (.iconst 1, 1) := by decide +kernel
theorem dL_law_720 : decode cL_law 720 = .ok (.iadd, 1) := by decide +kernel
theorem dL_law_721 : decode cL_law 721 = .ok (.iaload, 1) := by decide +kernel
theorem dL_law_722 : decode cL_law 722 = .ok (.aload_n 0, 1) := by decide +kernel
theorem dL_law_723 : decode cL_law 723 = .ok (.iload_n 3, 1) := by decide +kernel
theorem dL_law_724 : decode cL_law 724 = .ok (.iconst 2, 1) := by decide +kernel
theorem dL_law_725 : decode cL_law 725 = .ok (.iadd, 1) := by decide +kernel
theorem dL_law_726 : decode cL_law 726 = .ok (.iaload, 1) := by decide +kernel
theorem dL_law_727 : decode cL_law 727 = .ok (.invokevirtual 67, 3) := by decide +kernel
theorem dL_law_730 : decode cL_law 730 = .ok (.aload_n 2, 1) := by decide +kernel
theorem dL_law_731 : decode cL_law 731 = .ok (.aload_n 0, 1) := by decide +kernel
theorem dL_law_732 : decode cL_law 732 = .ok (.iload_n 3, 1) := by decide +kernel
theorem dL_law_733 : decode cL_law 733 = .ok (.iconst 1, 1) := by decide +kernel
theorem dL_law_734 : decode cL_law 734 = .ok (.iadd, 1) := by decide +kernel
theorem dL_law_735 : decode cL_law 735 = .ok (.iaload, 1) := by decide +kernel
theorem dL_law_736 : decode cL_law 736 = .ok (.aload_n 0, 1) := by decide +kernel
theorem dL_law_737 : decode cL_law 737 = .ok (.iload_n 3, 1) := by decide +kernel
theorem dL_law_738 : decode cL_law 738 = .ok (.iconst 2, 1) := by decide +kernel
theorem dL_law_739 : decode cL_law 739 = .ok (.iadd, 1) := by decide +kernel
theorem dL_law_740 : decode cL_law 740 = .ok (.iaload, 1) := by decide +kernel
theorem dL_law_741 : decode cL_law 741 = .ok (.invokevirtual 70, 3) := by decide +kernel
theorem dL_law_744 : decode cL_law 744 = .ok (.if_icmp .eq 961, 3) := by decide +kernel
theorem dL_law_747 : decode cL_law 747 = .ok (.iconst 0, 1) := by decide +kernel
theorem dL_law_748 : decode cL_law 748 = .ok (.ireturn, 1) := by decide +kernel
theorem dL_law_749 : decode cL_law 749 = .ok (.aload_n 1, 1) := by decide +kernel
theorem dL_law_750 : decode cL_law 750 = .ok (.aload_n 0, 1) := by decide +kernel
theorem dL_law_751 : decode cL_law 751 = .ok (.iload_n 3, 1) := by decide +kernel
theorem dL_law_752 : decode cL_law 752 = .ok (.iconst 1, 1) := by decide +kernel
theorem dL_law_753 : decode cL_law 753 = .ok (.iadd, 1) := by decide +kernel
theorem dL_law_754 : decode cL_law 754 = .ok (.iaload, 1) := by decide +kernel
theorem dL_law_755 : decode cL_law 755 = .ok (.aload_n 0, 1) := by decide +kernel
theorem dL_law_756 : decode cL_law 756 = .ok (.iload_n 3, 1) := by decide +kernel
theorem dL_law_757 : decode cL_law 757 = .ok (.iconst 2, 1) := by decide +kernel
theorem dL_law_758 : decode cL_law 758 = .ok (.iadd, 1) := by decide +kernel
theorem dL_law_759 : decode cL_law 759 = .ok (.iaload, 1) := by decide +kernel
theorem dL_law_760 : decode cL_law 760 = .ok (.invokevirtual 71, 3) := by decide +kernel
theorem dL_law_763 : decode cL_law 763 = .ok (.aload_n 2, 1) := by decide +kernel
theorem dL_law_764 : decode cL_law 764 = .ok (.aload_n 0, 1) := by decide +kernel
theorem dL_law_765 : decode cL_law 765 = .ok (.iload_n 3, 1) := by decide +kernel
theorem dL_law_766 : decode cL_law 766 = .ok (.iconst 1, 1) := by decide +kernel
theorem dL_law_767 : decode cL_law 767 = .ok (.iadd, 1) := by decide +kernel
theorem dL_law_768 : decode cL_law 768 = .ok (.iaload, 1) := by decide +kernel
theorem dL_law_769 : decode cL_law 769 = .ok (.aload_n 0, 1) := by decide +kernel
theorem dL_law_770 : decode cL_law 770 = .ok (.iload_n 3, 1) := by decide +kernel
theorem dL_law_771 : decode cL_law 771 = .ok (.iconst 2, 1) := by decide +kernel
theorem dL_law_772 : decode cL_law 772 = .ok (.iadd, 1) := by decide +kernel
theorem dL_law_773 : decode cL_law 773 = .ok (.iaload, 1) := by decide +kernel
theorem dL_law_774 : decode cL_law 774 = .ok (.invokevirtual 74, 3) := by decide +kernel
theorem dL_law_777 : decode cL_law 777 = .ok (.if_icmp .eq 928, 3) := by decide +kernel
theorem dL_law_780 : decode cL_law 780 = .ok (.iconst 0, 1) := by decide +kernel
theorem dL_law_781 : decode cL_law 781 = .ok (.ireturn, 1) := by decide +kernel
theorem dL_law_782 : decode cL_law 782 = .ok (.aload_n 1, 1) := by decide +kernel
theorem dL_law_783 : decode cL_law 783 = .ok (.aload_n 0, 1) := by decide +kernel
theorem dL_law_784 : decode cL_law 784 = .ok (.iload_n 3, 1) := by decide +kernel
theorem dL_law_785 : decode cL_law 785 = .ok (.iconst 1, 1) := by decide +kernel
theorem dL_law_786 : decode cL_law 786 = .ok (.iadd, 1) := by decide +kernel
theorem dL_law_787 : decode cL_law 787 = .ok (.iaload, 1) := by decide +kernel
theorem dL_law_788 : decode cL_law 788 = .ok (.aload_n 0, 1) := by decide +kernel
theorem dL_law_789 : decode cL_law 789 = .ok (.iload_n 3, 1) := by decide +kernel
theorem dL_law_790 : decode cL_law 790 = .ok (.iconst 2, 1) := by decide +kernel
theorem dL_law_791 : decode cL_law 791 = .ok (.iadd, 1) := by decide +kernel
theorem dL_law_792 : decode cL_law 792 = .ok (.iaload, 1) := by decide +kernel
theorem dL_law_793 : decode cL_law 793 = .ok (.invokevirtual 75, 3) := by decide +kernel
theorem dL_law_796 : decode cL_law 796 = .ok (.aload_n 2, 1) := by decide +kernel
theorem dL_law_797 : decode cL_law 797 = .ok (.aload_n 0, 1) := by decide +kernel
theorem dL_law_798 : decode cL_law 798 = .ok (.iload_n 3, 1) := by decide +kernel
theorem dL_law_799 : decode cL_law 799 = .ok (.iconst 1, 1) := by decide +kernel
theorem dL_law_800 : decode cL_law 800 = .ok (.iadd, 1) := by decide +kernel
theorem dL_law_801 : decode cL_law 801 = .ok (.iaload, 1) := by decide +kernel
theorem dL_law_802 : decode cL_law 802 = .ok (.aload_n 0, 1) := by decide +kernel
theorem dL_law_803 : decode cL_law 803 = .ok (.iload_n 3, 1) := by decide +kernel
theorem dL_law_804 : decode cL_law 804 = .ok (.iconst 2, 1) := by decide +kernel
theorem dL_law_805 : decode cL_law 805 = .ok (.iadd, 1) := by decide +kernel
theorem dL_law_806 : decode cL_law 806 = .ok (.iaload, 1) := by decide +kernel
theorem dL_law_807 : decode cL_law 807 = .ok (.invokevirtual 78, 3) := by decide +kernel
theorem dL_law_810 : decode cL_law 810 = .ok (.if_icmp .eq 895, 3) := by decide +kernel
theorem dL_law_813 : decode cL_law 813 = .ok (.iconst 0, 1) := by decide +kernel
theorem dL_law_814 : decode cL_law 814 = .ok (.ireturn, 1) := by decide +kernel
theorem dL_law_815 : decode cL_law 815 = .ok (.aload_n 1, 1) := by decide +kernel
theorem dL_law_816 : decode cL_law 816 = .ok (.aload_n 0, 1) := by decide +kernel
theorem dL_law_817 : decode cL_law 817 = .ok (.iload_n 3, 1) := by decide +kernel
theorem dL_law_818 : decode cL_law 818 = .ok (.iconst 1, 1) := by decide +kernel
theorem dL_law_819 : decode cL_law 819 = .ok (.iadd, 1) := by decide +kernel
theorem dL_law_820 : decode cL_law 820 = .ok (.iaload, 1) := by decide +kernel
theorem dL_law_821 : decode cL_law 821 = .ok (.aload_n 0, 1) := by decide +kernel
theorem dL_law_822 : decode cL_law 822 = .ok (.iload_n 3, 1) := by decide +kernel
theorem dL_law_823 : decode cL_law 823 = .ok (.iconst 2, 1) := by decide +kernel
theorem dL_law_824 : decode cL_law 824 = .ok (.iadd, 1) := by decide +kernel
theorem dL_law_825 : decode cL_law 825 = .ok (.iaload, 1) := by decide +kernel
theorem dL_law_826 : decode cL_law 826 = .ok (.invokevirtual 79, 3) := by decide +kernel
theorem dL_law_829 : decode cL_law 829 = .ok (.aload_n 2, 1) := by decide +kernel
theorem dL_law_830 : decode cL_law 830 = .ok (.aload_n 0, 1) := by decide +kernel
theorem dL_law_831 : decode cL_law 831 = .ok (.iload_n 3, 1) := by decide +kernel
theorem dL_law_832 : decode cL_law 832 = .ok (.iconst 1, 1) := by decide +kernel
theorem dL_law_833 : decode cL_law 833 = .ok (.iadd, 1) := by decide +kernel
theorem dL_law_834 : decode cL_law 834 = .ok (.iaload, 1) := by decide +kernel
theorem dL_law_835 : decode cL_law 835 = .ok (.aload_n 0, 1) := by decide +kernel
theorem dL_law_836 : decode cL_law 836 = .ok (.iload_n 3, 1) := by decide +kernel
theorem dL_law_837 : decode cL_law 837 = .ok (.iconst 2, 1) := by decide +kernel
theorem dL_law_838 : decode cL_law 838 = .ok (.iadd, 1) := by decide +kernel
theorem dL_law_839 : decode cL_law 839 = .ok (.iaload, 1) := by decide +kernel
theorem dL_law_840 : decode cL_law 840 = .ok (.invokevirtual 82, 3) := by decide +kernel
theorem dL_law_843 : decode cL_law 843 = .ok (.if_icmp .eq 862, 3) := by decide +kernel
theorem dL_law_846 : decode cL_law 846 = .ok (.iconst 0, 1) := by decide +kernel
theorem dL_law_847 : decode cL_law 847 = .ok (.ireturn, 1) := by decide +kernel
theorem dL_law_848 : decode cL_law 848 = .ok (.aload_n 1, 1) := by decide +kernel
theorem dL_law_849 : decode cL_law 849 = .ok (.aload_n 0, 1) := by decide +kernel
theorem dL_law_850 : decode cL_law 850 = .ok (.iload_n 3, 1) := by decide +kernel
theorem dL_law_851 : decode cL_law 851 = .ok (.iconst 1, 1) := by decide +kernel
theorem dL_law_852 : decode cL_law 852 = .ok (.iadd, 1) := by decide +kernel
theorem dL_law_853 : decode cL_law 853 = .ok (.iaload, 1) := by decide +kernel
theorem dL_law_854 : decode cL_law 854 = .ok (.invokevirtual 83, 3) := by decide +kernel
theorem dL_law_857 : decode cL_law 857 = .ok (.aload_n 2, 1) := by decide +kernel
theorem dL_law_858 : decode cL_law 858 = .ok (.aload_n 0, 1) := by decide +kernel
theorem dL_law_859 : decode cL_law 859 = .ok (.iload_n 3, 1) := by decide +kernel
theorem dL_law_860 : decode cL_law 860 = .ok (.iconst 1, 1) := by decide +kernel
theorem dL_law_861 : decode cL_law 861 = .ok (.iadd, 1) := by decide +kernel
theorem dL_law_862 : decode cL_law 862 = .ok (.iaload, 1) := by decide +kernel
theorem dL_law_863 : decode cL_law 863 = .ok (.invokevirtual 86, 3) := by decide +kernel
theorem dL_law_866 : decode cL_law 866 = .ok (.if_icmp .eq 839, 3) := by decide +kernel
theorem dL_law_869 : decode cL_law 869 = .ok (.iconst 0, 1) := by decide +kernel
theorem dL_law_870 : decode cL_law 870 = .ok (.ireturn, 1) := by decide +kernel
theorem dL_law_871 : decode cL_law 871 = .ok (.aload_n 1, 1) := by decide +kernel
theorem dL_law_872 : decode cL_law 872 = .ok (.aload_n 0, 1) := by decide +kernel
theorem dL_law_873 : decode cL_law 873 = .ok (.iload_n 3, 1) := by decide +kernel
theorem dL_law_874 : decode cL_law 874 = .ok (.iconst 1, 1) := by decide +kernel
theorem dL_law_875 : decode cL_law 875 = .ok (.iadd, 1) := by decide +kernel
theorem dL_law_876 : decode cL_law 876 = .ok (.iaload, 1) := by decide +kernel
theorem dL_law_877 : decode cL_law 877 = .ok (.invokevirtual 87, 3) := by decide +kernel
theorem dL_law_880 : decode cL_law 880 = .ok (.aload_n 2, 1) := by decide +kernel
theorem dL_law_881 : decode cL_law 881 = .ok (.aload_n 0, 1) := by decide +kernel
theorem dL_law_882 : decode cL_law 882 = .ok (.iload_n 3, 1) := by decide +kernel
theorem dL_law_883 : decode cL_law 883 = .ok (.iconst 1, 1) := by decide +kernel
theorem dL_law_884 : decode cL_law 884 = .ok (.iadd, 1) := by decide +kernel
theorem dL_law_885 : decode cL_law 885 = .ok (.iaload, 1) := by decide +kernel
theorem dL_law_886 : decode cL_law 886 = .ok (.invokevirtual 90, 3) := by decide +kernel
theorem dL_law_889 : decode cL_law 889 = .ok (.if_icmp .eq 816, 3) := by decide +kernel
theorem dL_law_892 : decode cL_law 892 = .ok (.iconst 0, 1) := by decide +kernel
theorem dL_law_893 : decode cL_law 893 = .ok (.ireturn, 1) := by decide +kernel
theorem dL_law_894 : decode cL_law 894 = .ok (.aload_n 1, 1) := by decide +kernel
theorem dL_law_895 : decode cL_law 895 = .ok (.invokevirtual 91, 3) := by decide +kernel
theorem dL_law_898 : decode cL_law 898 = .ok (.aload_n 2, 1) := by decide +kernel
theorem dL_law_899 : decode cL_law 899 = .ok (.invokevirtual 95, 3) := by decide +kernel
theorem dL_law_902 : decode cL_law 902 = .ok (.if_icmp .eq 803, 3) := by decide +kernel
theorem dL_law_905 : decode cL_law 905 = .ok (.iconst 0, 1) := by decide +kernel
theorem dL_law_906 : decode cL_law 906 = .ok (.ireturn, 1) := by decide +kernel
theorem dL_law_907 : decode cL_law 907 = .ok (.aload_n 1, 1) := by decide +kernel
theorem dL_law_908 : decode cL_law 908 = .ok (.aload_n 0, 1) := by decide +kernel
theorem dL_law_909 : decode cL_law 909 = .ok (.iload_n 3, 1) := by decide +kernel
theorem dL_law_910 : decode cL_law 910 = .ok (.iconst 1, 1) := by decide +kernel
theorem dL_law_911 : decode cL_law 911 = .ok (.iadd, 1) := by decide +kernel
theorem dL_law_912 : decode cL_law 912 = .ok (.iaload, 1) := by decide +kernel
theorem dL_law_913 : decode cL_law 913 = .ok (.invokevirtual 96, 3) := by decide +kernel
theorem dL_law_916 : decode cL_law 916 = .ok (.aload_n 2, 1) := by decide +kernel
theorem dL_law_917 : decode cL_law 917 = .ok (.aload_n 0, 1) := by decide +kernel
theorem dL_law_918 : decode cL_law 918 = .ok (.iload_n 3, 1) := by decide +kernel
theorem dL_law_919 : decode cL_law 919 = .ok (.iconst 1, 1) := by decide +kernel
theorem dL_law_920 : decode cL_law 920 = .ok (.iadd, 1) := by decide +kernel
theorem dL_law_921 : decode cL_law 921 = .ok (.iaload, 1) := by decide +kernel
theorem dL_law_922 : decode cL_law 922 = .ok (.invokevirtual 99, 3) := by decide +kernel
theorem dL_law_925 : decode cL_law 925 = .ok (.if_icmp .eq 780, 3) := by decide +kernel
theorem dL_law_928 : decode cL_law 928 = .ok (.iconst 0, 1) := by decide +kernel
theorem dL_law_929 : decode cL_law 929 = .ok (.ireturn, 1) := by decide +kernel
theorem dL_law_930 : decode cL_law 930 = .ok (.aload_n 1, 1) := by decide +kernel
theorem dL_law_931 : decode cL_law 931 = .ok (.aload_n 0, 1) := by decide +kernel
theorem dL_law_932 : decode cL_law 932 = .ok (.iload_n 3, 1) := by decide +kernel
theorem dL_law_933 : decode cL_law 933 = .ok (.iconst 1, 1) := by decide +kernel
theorem dL_law_934 : decode cL_law 934 = .ok (.iadd, 1) := by decide +kernel
theorem dL_law_935 : decode cL_law 935 = .ok (.iaload, 1) := by decide +kernel
theorem dL_law_936 : decode cL_law 936 = .ok (.invokevirtual 100, 3) := by decide +kernel
theorem dL_law_939 : decode cL_law 939 = .ok (.aload_n 2, 1) := by decide +kernel
theorem dL_law_940 : decode cL_law 940 = .ok (.aload_n 0, 1) := by decide +kernel
theorem dL_law_941 : decode cL_law 941 = .ok (.iload_n 3, 1) := by decide +kernel
theorem dL_law_942 : decode cL_law 942 = .ok (.iconst 1, 1) := by decide +kernel
theorem dL_law_943 : decode cL_law 943 = .ok (.iadd, 1) := by decide +kernel
theorem dL_law_944 : decode cL_law 944 = .ok (.iaload, 1) := by decide +kernel
theorem dL_law_945 : decode cL_law 945 = .ok (.invokevirtual 104, 3) := by decide +kernel
theorem dL_law_948 : decode cL_law 948 = .ok (.lcmp, 1) := by decide +kernel
theorem dL_law_949 : decode cL_law 949 = .ok (.ifCond .eq 756, 3) := by decide +kernel
theorem dL_law_952 : decode cL_law 952 = .ok (.iconst 0, 1) := by decide +kernel
theorem dL_law_953 : decode cL_law 953 = .ok (.ireturn, 1) := by decide +kernel
theorem dL_law_954 : decode cL_law 954 = .ok (.aload_n 1, 1) := by decide +kernel
theorem dL_law_955 : decode cL_law 955 = .ok (.aload_n 0, 1) := by decide +kernel
theorem dL_law_956 : decode cL_law 956 = .ok (.iload_n 3, 1) := by decide +kernel
theorem dL_law_957 : decode cL_law 957 = .ok (.iconst 1, 1) := by decide +kernel
theorem dL_law_958 : decode cL_law 958 = .ok (.iadd, 1) := by decide +kernel
theorem dL_law_959 : decode cL_law 959 = .ok (.iaload, 1) := by decide +kernel
theorem dL_law_960 : decode cL_law 960 = .ok (.aload_n 0, 1) := by decide +kernel
theorem dL_law_961 : decode cL_law 961 = .ok (.iload_n 3, 1) := by decide +kernel
theorem dL_law_962 : decode cL_law 962 = .ok (.iconst 2, 1) := by decide +kernel
theorem dL_law_963 : decode cL_law 963 = .ok (.iadd, 1) := by decide +kernel
theorem dL_law_964 : decode cL_law 964 = .ok (.iaload, 1) := by decide +kernel
theorem dL_law_965 : decode cL_law 965 = .ok (.invokevirtual 105, 3) := by decide +kernel
theorem dL_law_968 : decode cL_law 968 = .ok (.aload_n 2, 1) := by decide +kernel
theorem dL_law_969 : decode cL_law 969 = .ok (.aload_n 0, 1) := by decide +kernel
theorem dL_law_970 : decode cL_law 970 = .ok (.iload_n 3, 1) := by decide +kernel
theorem dL_law_971 : decode cL_law 971 = .ok (.iconst 1, 1) := by decide +kernel
theorem dL_law_972 : decode cL_law 972 = .ok (.iadd, 1) := by decide +kernel
theorem dL_law_973 : decode cL_law 973 = .ok (.iaload, 1) := by decide +kernel
theorem dL_law_974 : decode cL_law 974 = .ok (.aload_n 0, 1) := by decide +kernel
theorem dL_law_975 : decode cL_law 975 = .ok (.iload_n 3, 1) := by decide +kernel
theorem dL_law_976 : decode cL_law 976 = .ok (.iconst 2, 1) := by decide +kernel
theorem dL_law_977 : decode cL_law 977 = .ok (.iadd, 1) := by decide +kernel
theorem dL_law_978 : decode cL_law 978 = .ok (.iaload, 1) := by decide +kernel
theorem dL_law_979 : decode cL_law 979 = .ok (.invokevirtual 108, 3) := by decide +kernel
theorem dL_law_982 : decode cL_law 982 = .ok (.if_icmp .eq 723, 3) := by decide +kernel
theorem dL_law_985 : decode cL_law 985 = .ok (.iconst 0, 1) := by decide +kernel
theorem dL_law_986 : decode cL_law 986 = .ok (.ireturn, 1) := by decide +kernel
theorem dL_law_987 : decode cL_law 987 = .ok (.aload_n 1, 1) := by decide +kernel
theorem dL_law_988 : decode cL_law 988 = .ok (.aload_n 0, 1) := by decide +kernel
theorem dL_law_989 : decode cL_law 989 = .ok (.iload_n 3, 1) := by decide +kernel
theorem dL_law_990 : decode cL_law 990 = .ok (.iconst 1, 1) := by decide +kernel
theorem dL_law_991 : decode cL_law 991 = .ok (.iadd, 1) := by decide +kernel
theorem dL_law_992 : decode cL_law 992 = .ok (.iaload, 1) := by decide +kernel
theorem dL_law_993 : decode cL_law 993 = .ok (.ifCond .eq 7, 3) := by decide +kernel
theorem dL_law_996 : decode cL_law 996 = .ok (.iconst 1, 1) := by decide +kernel
theorem dL_law_997 : decode cL_law 997 = .ok (.goto 4, 3) := by decide +kernel
theorem dL_law_1000 : decode cL_law 1000 = .ok (.iconst 0, 1) := by decide +kernel
theorem dL_law_1001 : decode cL_law 1001 = .ok (.invokevirtual 109, 3) := by decide +kernel
theorem dL_law_1004 : decode cL_law 1004 = .ok (.aload_n 2, 1) := by decide +kernel
theorem dL_law_1005 : decode cL_law 1005 = .ok (.aload_n 0, 1) := by decide +kernel
theorem dL_law_1006 : decode cL_law 1006 = .ok (.iload_n 3, 1) := by decide +kernel
theorem dL_law_1007 : decode cL_law 1007 = .ok (.iconst 1, 1) := by decide +kernel
theorem dL_law_1008 : decode cL_law 1008 = .ok (.iadd, 1) := by decide +kernel
theorem dL_law_1009 : decode cL_law 1009 = .ok (.iaload, 1) := by decide +kernel
theorem dL_law_1010 : decode cL_law 1010 = .ok (.ifCond .eq 7, 3) := by decide +kernel
theorem dL_law_1013 : decode cL_law 1013 = .ok (.iconst 1, 1) := by decide +kernel
theorem dL_law_1014 : decode cL_law 1014 = .ok (.goto 4, 3) := by decide +kernel
theorem dL_law_1017 : decode cL_law 1017 = .ok (.iconst 0, 1) := by decide +kernel
theorem dL_law_1018 : decode cL_law 1018 = .ok (.invokevirtual 113, 3) := by decide +kernel
theorem dL_law_1021 : decode cL_law 1021 = .ok (.if_icmp .eq 684, 3) := by decide +kernel
theorem dL_law_1024 : decode cL_law 1024 = .ok (.iconst 0, 1) := by decide +kernel
theorem dL_law_1025 : decode cL_law 1025 = .ok (.ireturn, 1) := by decide +kernel
theorem dL_law_1026 : decode cL_law 1026 = .ok (.aload_n 1, 1) := by decide +kernel
theorem dL_law_1027 : decode cL_law 1027 = .ok (.aload_n 0, 1) := by decide +kernel
theorem dL_law_1028 : decode cL_law 1028 = .ok (.iload_n 3, 1) := by decide +kernel
theorem dL_law_1029 : decode cL_law 1029 = .ok (.iconst 1, 1) := by decide +kernel
theorem dL_law_1030 : decode cL_law 1030 = .ok (.iadd, 1) := by decide +kernel
theorem dL_law_1031 : decode cL_law 1031 = .ok (.iaload, 1) := by decide +kernel
theorem dL_law_1032 : decode cL_law 1032 = .ok (.aload_n 0, 1) := by decide +kernel
theorem dL_law_1033 : decode cL_law 1033 = .ok (.iload_n 3, 1) := by decide +kernel
theorem dL_law_1034 : decode cL_law 1034 = .ok (.iconst 2, 1) := by decide +kernel
theorem dL_law_1035 : decode cL_law 1035 = .ok (.iadd, 1) := by decide +kernel
theorem dL_law_1036 : decode cL_law 1036 = .ok (.iaload, 1) := by decide +kernel
theorem dL_law_1037 : decode cL_law 1037 = .ok (.ifCond .eq 7, 3) := by decide +kernel
theorem dL_law_1040 : decode cL_law 1040 = .ok (.iconst 1, 1) := by decide +kernel
theorem dL_law_1041 : decode cL_law 1041 = .ok (.goto 4, 3) := by decide +kernel
theorem dL_law_1044 : decode cL_law 1044 = .ok (.iconst 0, 1) := by decide +kernel
theorem dL_law_1045 : decode cL_law 1045 = .ok (.invokevirtual 114, 3) := by decide +kernel
theorem dL_law_1048 : decode cL_law 1048 = .ok (.aload_n 2, 1) := by decide +kernel
theorem dL_law_1049 : decode cL_law 1049 = .ok (.aload_n 0, 1) := by decide +kernel
theorem dL_law_1050 : decode cL_law 1050 = .ok (.iload_n 3, 1) := by decide +kernel
theorem dL_law_1051 : decode cL_law 1051 = .ok (.iconst 1, 1) := by decide +kernel
theorem dL_law_1052 : decode cL_law 1052 = .ok (.iadd, 1) := by decide +kernel
theorem dL_law_1053 : decode cL_law 1053 = .ok (.iaload, 1) := by decide +kernel
theorem dL_law_1054 : decode cL_law 1054 = .ok (.aload_n 0, 1) := by decide +kernel
theorem dL_law_1055 : decode cL_law 1055 = .ok (.iload_n 3, 1) := by decide +kernel
theorem dL_law_1056 : decode cL_law 1056 = .ok (.iconst 2, 1) := by decide +kernel
theorem dL_law_1057 : decode cL_law 1057 = .ok (.iadd, 1) := by decide +kernel
theorem dL_law_1058 : decode cL_law 1058 = .ok (.iaload, 1) := by decide +kernel
theorem dL_law_1059 : decode cL_law 1059 = .ok (.ifCond .eq 7, 3) := by decide +kernel
theorem dL_law_1062 : decode cL_law 1062 = .ok (.iconst 1, 1) := by decide +kernel
theorem dL_law_1063 : decode cL_law 1063 = .ok (.goto 4, 3) := by decide +kernel
theorem dL_law_1066 : decode cL_law 1066 = .ok (.iconst 0, 1) := by decide +kernel
theorem dL_law_1067 : decode cL_law 1067 = .ok (.invokevirtual 118, 3) := by decide +kernel
theorem dL_law_1070 : decode cL_law 1070 = .ok (.if_icmp .eq 635, 3) := by decide +kernel
theorem dL_law_1073 : decode cL_law 1073 = .ok (.iconst 0, 1) := by decide +kernel
theorem dL_law_1074 : decode cL_law 1074 = .ok (.ireturn, 1) := by decide +kernel
theorem dL_law_1075 : decode cL_law 1075 = .ok (.aload_n 1, 1) := by decide +kernel
theorem dL_law_1076 : decode cL_law 1076 = .ok (.invokevirtual 119, 3) := by decide +kernel
theorem dL_law_1079 : decode cL_law 1079 = .ok (.aload_n 2, 1) := by decide +kernel
theorem dL_law_1080 : decode cL_law 1080 = .ok (.invokevirtual 122, 3) := by decide +kernel
theorem dL_law_1083 : decode cL_law 1083 = .ok (.if_icmp .eq 622, 3) := by decide +kernel
theorem dL_law_1086 : decode cL_law 1086 = .ok (.iconst 0, 1) := by decide +kernel
theorem dL_law_1087 : decode cL_law 1087 = .ok (.ireturn, 1) := by decide +kernel
theorem dL_law_1088 : decode cL_law 1088 = .ok (.aload_n 1, 1) := by decide +kernel
theorem dL_law_1089 : decode cL_law 1089 = .ok (.invokevirtual 123, 3) := by decide +kernel
theorem dL_law_1092 : decode cL_law 1092 = .ok (.aload_n 2, 1) := by decide +kernel
theorem dL_law_1093 : decode cL_law 1093 = .ok (.invokevirtual 126, 3) := by decide +kernel
theorem dL_law_1096 : decode cL_law 1096 = .ok (.if_icmp .eq 609, 3) := by decide +kernel
theorem dL_law_1099 : decode cL_law 1099 = .ok (.iconst 0, 1) := by decide +kernel
theorem dL_law_1100 : decode cL_law 1100 = .ok (.ireturn, 1) := by decide +kernel
theorem dL_law_1101 : decode cL_law 1101 = .ok (.aload_n 1, 1) := by decide +kernel
theorem dL_law_1102 : decode cL_law 1102 = .ok (.aload_n 0, 1) := by decide +kernel
theorem dL_law_1103 : decode cL_law 1103 = .ok (.iload_n 3, 1) := by decide +kernel
theorem dL_law_1104 : decode cL_law 1104 = .ok (.iconst 1, 1) := by decide +kernel
theorem dL_law_1105 : decode cL_law 1105 = .ok (.iadd, 1) := by decide +kernel
theorem dL_law_1106 : decode cL_law 1106 = .ok (.iaload, 1) := by decide +kernel
theorem dL_law_1107 : decode cL_law 1107 = .ok (.aload_n 0, 1) := by decide +kernel
theorem dL_law_1108 : decode cL_law 1108 = .ok (.iload_n 3, 1) := by decide +kernel
theorem dL_law_1109 : decode cL_law 1109 = .ok (.iconst 2, 1) := by decide +kernel
theorem dL_law_1110 : decode cL_law 1110 = .ok (.iadd, 1) := by decide +kernel
theorem dL_law_1111 : decode cL_law 1111 = .ok (.iaload, 1) := by decide +kernel
theorem dL_law_1112 : decode cL_law 1112 = .ok (.invokevirtual 127, 3) := by decide +kernel
theorem dL_law_1115 : decode cL_law 1115 = .ok (.aload_n 2, 1) := by decide +kernel
theorem dL_law_1116 : decode cL_law 1116 = .ok (.aload_n 0, 1) := by decide +kernel
theorem dL_law_1117 : decode cL_law 1117 = .ok (.iload_n 3, 1) := by decide +kernel
theorem dL_law_1118 : decode cL_law 1118 = .ok (.iconst 1, 1) := by decide +kernel
theorem dL_law_1119 : decode cL_law 1119 = .ok (.iadd, 1) := by decide +kernel
theorem dL_law_1120 : decode cL_law 1120 = .ok (.iaload, 1) := by decide +kernel
theorem dL_law_1121 : decode cL_law 1121 = .ok (.aload_n 0, 1) := by decide +kernel
theorem dL_law_1122 : decode cL_law 1122 = .ok (.iload_n 3, 1) := by decide +kernel
theorem dL_law_1123 : decode cL_law 1123 = .ok (.iconst 2, 1) := by decide +kernel
theorem dL_law_1124 : decode cL_law 1124 = .ok (.iadd, 1) := by decide +kernel
theorem dL_law_1125 : decode cL_law 1125 = .ok (.iaload, 1) := by decide +kernel
theorem dL_law_1126 : decode cL_law 1126 = .ok (.invokevirtual 130, 3) := by decide +kernel
theorem dL_law_1129 : decode cL_law 1129 = .ok (.if_icmp .eq 576, 3) := by decide +kernel
theorem dL_law_1132 : decode cL_law 1132 = .ok (.iconst 0, 1) := by decide +kernel
theorem dL_law_1133 : decode cL_law 1133 = .ok (.ireturn, 1) := by decide +kernel
theorem dL_law_1134 : decode cL_law 1134 = .ok (.aload_n 1, 1) := by decide +kernel
theorem dL_law_1135 : decode cL_law 1135 = .ok (.aload_n 0, 1) := by decide +kernel
theorem dL_law_1136 : decode cL_law 1136 = .ok (.iload_n 3, 1) := by decide +kernel
theorem dL_law_1137 : decode cL_law 1137 = .ok (.iconst 1, 1) := by decide +kernel
theorem dL_law_1138 : decode cL_law 1138 = .ok (.iadd, 1) := by decide +kernel
theorem dL_law_1139 : decode cL_law 1139 = .ok (.iaload, 1) := by decide +kernel
theorem dL_law_1140 : decode cL_law 1140 = .ok (.aload_n 0, 1) := by decide +kernel
theorem dL_law_1141 : decode cL_law 1141 = .ok (.iload_n 3, 1) := by decide +kernel
theorem dL_law_1142 : decode cL_law 1142 = .ok (.iconst 2, 1) := by decide +kernel
theorem dL_law_1143 : decode cL_law 1143 = .ok (.iadd, 1) := by decide +kernel
theorem dL_law_1144 : decode cL_law 1144 = .ok (.iaload, 1) := by decide +kernel
theorem dL_law_1145 : decode cL_law 1145 = .ok (.invokevirtual 131, 3) := by decide +kernel
theorem dL_law_1148 : decode cL_law 1148 = .ok (.aload_n 2, 1) := by decide +kernel
theorem dL_law_1149 : decode cL_law 1149 = .ok (.aload_n 0, 1) := by decide +kernel
theorem dL_law_1150 : decode cL_law 1150 = .ok (.iload_n 3, 1) := by decide +kernel
theorem dL_law_1151 : decode cL_law 1151 = .ok (.iconst 1, 1) := by decide +kernel
theorem dL_law_1152 : decode cL_law 1152 = .ok (.iadd, 1) := by decide +kernel
theorem dL_law_1153 : decode cL_law 1153 = .ok (.iaload, 1) := by decide +kernel
theorem dL_law_1154 : decode cL_law 1154 = .ok (.aload_n 0, 1) := by decide +kernel
theorem dL_law_1155 : decode cL_law 1155 = .ok (.iload_n 3, 1) := by decide +kernel
theorem dL_law_1156 : decode cL_law 1156 = .ok (.iconst 2, 1) := by decide +kernel
theorem dL_law_1157 : decode cL_law 1157 = .ok (.iadd, 1) := by decide +kernel
theorem dL_law_1158 : decode cL_law 1158 = .ok (.iaload, 1) := by decide +kernel
theorem dL_law_1159 : decode cL_law 1159 = .ok (.invokevirtual 134, 3) := by decide +kernel
theorem dL_law_1162 : decode cL_law 1162 = .ok (.if_icmp .eq 543, 3) := by decide +kernel
theorem dL_law_1165 : decode cL_law 1165 = .ok (.iconst 0, 1) := by decide +kernel
theorem dL_law_1166 : decode cL_law 1166 = .ok (.ireturn, 1) := by decide +kernel
theorem dL_law_1167 : decode cL_law 1167 = .ok (.aload_n 1, 1) := by decide +kernel
theorem dL_law_1168 : decode cL_law 1168 = .ok (.aload_n 0, 1) := by decide +kernel
theorem dL_law_1169 : decode cL_law 1169 = .ok (.iload_n 3, 1) := by decide +kernel
theorem dL_law_1170 : decode cL_law 1170 = .ok (.iconst 1, 1) := by decide +kernel
theorem dL_law_1171 : decode cL_law 1171 = .ok (.iadd, 1) := by decide +kernel
theorem dL_law_1172 : decode cL_law 1172 = .ok (.iaload, 1) := by decide +kernel
theorem dL_law_1173 : decode cL_law 1173 = .ok (.invokevirtual 135, 3) := by decide +kernel
theorem dL_law_1176 : decode cL_law 1176 = .ok (.aload_n 2, 1) := by decide +kernel
theorem dL_law_1177 : decode cL_law 1177 = .ok (.aload_n 0, 1) := by decide +kernel
theorem dL_law_1178 : decode cL_law 1178 = .ok (.iload_n 3, 1) := by decide +kernel
theorem dL_law_1179 : decode cL_law 1179 = .ok (.iconst 1, 1) := by decide +kernel
theorem dL_law_1180 : decode cL_law 1180 = .ok (.iadd, 1) := by decide +kernel
theorem dL_law_1181 : decode cL_law 1181 = .ok (.iaload, 1) := by decide +kernel
theorem dL_law_1182 : decode cL_law 1182 = .ok (.invokevirtual 138, 3) := by decide +kernel
theorem dL_law_1185 : decode cL_law 1185 = .ok (.lcmp, 1) := by decide +kernel
theorem dL_law_1186 : decode cL_law 1186 = .ok (.ifCond .eq 519, 3) := by decide +kernel
theorem dL_law_1189 : decode cL_law 1189 = .ok (.iconst 0, 1) := by decide +kernel
theorem dL_law_1190 : decode cL_law 1190 = .ok (.ireturn, 1) := by decide +kernel
theorem dL_law_1191 : decode cL_law 1191 = .ok (.aload_n 1, 1) := by decide +kernel
theorem dL_law_1192 : decode cL_law 1192 = .ok (.invokevirtual 139, 3) := by decide +kernel
theorem dL_law_1195 : decode cL_law 1195 = .ok (.aload_n 2, 1) := by decide +kernel
theorem dL_law_1196 : decode cL_law 1196 = .ok (.invokevirtual 142, 3) := by decide +kernel
theorem dL_law_1199 : decode cL_law 1199 = .ok (.if_icmp .eq 506, 3) := by decide +kernel
theorem dL_law_1202 : decode cL_law 1202 = .ok (.iconst 0, 1) := by decide +kernel
theorem dL_law_1203 : decode cL_law 1203 = .ok (.ireturn, 1) := by decide +kernel
theorem dL_law_1204 : decode cL_law 1204 = .ok (.aload_n 1, 1) := by decide +kernel
theorem dL_law_1205 : decode cL_law 1205 = .ok (.invokevirtual 143, 3) := by decide +kernel
theorem dL_law_1208 : decode cL_law 1208 = .ok (.aload_n 2, 1) := by decide +kernel
theorem dL_law_1209 : decode cL_law 1209 = .ok (.invokevirtual 146, 3) := by decide +kernel
theorem dL_law_1212 : decode cL_law 1212 = .ok (.if_icmp .eq 493, 3) := by decide +kernel
theorem dL_law_1215 : decode cL_law 1215 = .ok (.iconst 0, 1) := by decide +kernel
theorem dL_law_1216 : decode cL_law 1216 = .ok (.ireturn, 1) := by decide +kernel
theorem dL_law_1217 : decode cL_law 1217 = .ok (.aload_n 1, 1) := by decide +kernel
theorem dL_law_1218 : decode cL_law 1218 = .ok (.aload_n 0, 1) := by decide +kernel
theorem dL_law_1219 : decode cL_law 1219 = .ok (.iload_n 3, 1) := by decide +kernel
theorem dL_law_1220 : decode cL_law 1220 = .ok (.iconst 1, 1) := by decide +kernel
theorem dL_law_1221 : decode cL_law 1221 = .ok (.iadd, 1) := by decide +kernel
theorem dL_law_1222 : decode cL_law 1222 = .ok (.iaload, 1) := by decide +kernel
theorem dL_law_1223 : decode cL_law 1223 = .ok (.invokevirtual 147, 3) := by decide +kernel
theorem dL_law_1226 : decode cL_law 1226 = .ok (.aload_n 2, 1) := by decide +kernel
theorem dL_law_1227 : decode cL_law 1227 = .ok (.aload_n 0, 1) := by decide +kernel
theorem dL_law_1228 : decode cL_law 1228 = .ok (.iload_n 3, 1) := by decide +kernel
theorem dL_law_1229 : decode cL_law 1229 = .ok (.iconst 1, 1) := by decide +kernel
theorem dL_law_1230 : decode cL_law 1230 = .ok (.iadd, 1) := by decide +kernel
theorem dL_law_1231 : decode cL_law 1231 = .ok (.iaload, 1) := by decide +kernel
theorem dL_law_1232 : decode cL_law 1232 = .ok (.invokevirtual 150, 3) := by decide +kernel
theorem dL_law_1235 : decode cL_law 1235 = .ok (.if_icmp .eq 470, 3) := by decide +kernel
theorem dL_law_1238 : decode cL_law 1238 = .ok (.iconst 0, 1) := by decide +kernel
theorem dL_law_1239 : decode cL_law 1239 = .ok (.ireturn, 1) := by decide +kernel
theorem dL_law_1240 : decode cL_law 1240 = .ok (.aload_n 1, 1) := by decide +kernel
theorem dL_law_1241 : decode cL_law 1241 = .ok (.aload_n 0, 1) := by decide +kernel
theorem dL_law_1242 : decode cL_law 1242 = .ok (.iload_n 3, 1) := by decide +kernel
theorem dL_law_1243 : decode cL_law 1243 = .ok (.iconst 1, 1) := by decide +kernel
theorem dL_law_1244 : decode cL_law 1244 = .ok (.iadd, 1) := by decide +kernel
theorem dL_law_1245 : decode cL_law 1245 = .ok (.iaload, 1) := by decide +kernel
theorem dL_law_1246 : decode cL_law 1246 = .ok (.aload_n 0, 1) := by decide +kernel
theorem dL_law_1247 : decode cL_law 1247 = .ok (.iload_n 3, 1) := by decide +kernel
theorem dL_law_1248 : decode cL_law 1248 = .ok (.iconst 2, 1) := by decide +kernel
theorem dL_law_1249 : decode cL_law 1249 = .ok (.iadd, 1) := by decide +kernel
theorem dL_law_1250 : decode cL_law 1250 = .ok (.iaload, 1) := by decide +kernel
theorem dL_law_1251 : decode cL_law 1251 = .ok (.invokevirtual 151, 3) := by decide +kernel
theorem dL_law_1254 : decode cL_law 1254 = .ok (.aload_n 2, 1) := by decide +kernel
theorem dL_law_1255 : decode cL_law 1255 = .ok (.aload_n 0, 1) := by decide +kernel
theorem dL_law_1256 : decode cL_law 1256 = .ok (.iload_n 3, 1) := by decide +kernel
theorem dL_law_1257 : decode cL_law 1257 = .ok (.iconst 1, 1) := by decide +kernel
theorem dL_law_1258 : decode cL_law 1258 = .ok (.iadd, 1) := by decide +kernel
theorem dL_law_1259 : decode cL_law 1259 = .ok (.iaload, 1) := by decide +kernel
theorem dL_law_1260 : decode cL_law 1260 = .ok (.aload_n 0, 1) := by decide +kernel
theorem dL_law_1261 : decode cL_law 1261 = .ok (.iload_n 3, 1) := by decide +kernel
theorem dL_law_1262 : decode cL_law 1262 = .ok (.iconst 2, 1) := by decide +kernel
theorem dL_law_1263 : decode cL_law 1263 = .ok (.iadd, 1) := by decide +kernel
theorem dL_law_1264 : decode cL_law 1264 = .ok (.iaload, 1) := by decide +kernel
theorem dL_law_1265 : decode cL_law 1265 = .ok (.invokevirtual 154, 3) := by decide +kernel
theorem dL_law_1268 : decode cL_law 1268 = .ok (.lcmp, 1) := by decide +kernel
theorem dL_law_1269 : decode cL_law 1269 = .ok (.ifCond .eq 436, 3) := by decide +kernel
theorem dL_law_1272 : decode cL_law 1272 = .ok (.iconst 0, 1) := by decide +kernel
theorem dL_law_1273 : decode cL_law 1273 = .ok (.ireturn, 1) := by decide +kernel
theorem dL_law_1274 : decode cL_law 1274 = .ok (.aload_n 1, 1) := by decide +kernel
theorem dL_law_1275 : decode cL_law 1275 = .ok (.aload_n 0, 1) := by decide +kernel
theorem dL_law_1276 : decode cL_law 1276 = .ok (.iload_n 3, 1) := by decide +kernel
theorem dL_law_1277 : decode cL_law 1277 = .ok (.iconst 1, 1) := by decide +kernel
theorem dL_law_1278 : decode cL_law 1278 = .ok (.iadd, 1) := by decide +kernel
theorem dL_law_1279 : decode cL_law 1279 = .ok (.iaload, 1) := by decide +kernel
theorem dL_law_1280 : decode cL_law 1280 = .ok (.aload_n 0, 1) := by decide +kernel
theorem dL_law_1281 : decode cL_law 1281 = .ok (.iload_n 3, 1) := by decide +kernel
theorem dL_law_1282 : decode cL_law 1282 = .ok (.iconst 2, 1) := by decide +kernel
theorem dL_law_1283 : decode cL_law 1283 = .ok (.iadd, 1) := by decide +kernel
theorem dL_law_1284 : decode cL_law 1284 = .ok (.iaload, 1) := by decide +kernel
theorem dL_law_1285 : decode cL_law 1285 = .ok (.invokevirtual 155, 3) := by decide +kernel
theorem dL_law_1288 : decode cL_law 1288 = .ok (.aload_n 2, 1) := by decide +kernel
theorem dL_law_1289 : decode cL_law 1289 = .ok (.aload_n 0, 1) := by decide +kernel
theorem dL_law_1290 : decode cL_law 1290 = .ok (.iload_n 3, 1) := by decide +kernel
theorem dL_law_1291 : decode cL_law 1291 = .ok (.iconst 1, 1) := by decide +kernel
theorem dL_law_1292 : decode cL_law 1292 = .ok (.iadd, 1) := by decide +kernel
theorem dL_law_1293 : decode cL_law 1293 = .ok (.iaload, 1) := by decide +kernel
theorem dL_law_1294 : decode cL_law 1294 = .ok (.aload_n 0, 1) := by decide +kernel
theorem dL_law_1295 : decode cL_law 1295 = .ok (.iload_n 3, 1) := by decide +kernel
theorem dL_law_1296 : decode cL_law 1296 = .ok (.iconst 2, 1) := by decide +kernel
theorem dL_law_1297 : decode cL_law 1297 = .ok (.iadd, 1) := by decide +kernel
theorem dL_law_1298 : decode cL_law 1298 = .ok (.iaload, 1) := by decide +kernel
theorem dL_law_1299 : decode cL_law 1299 = .ok (.invokevirtual 158, 3) := by decide +kernel
theorem dL_law_1302 : decode cL_law 1302 = .ok (.if_icmp .eq 403, 3) := by decide +kernel
theorem dL_law_1305 : decode cL_law 1305 = .ok (.iconst 0, 1) := by decide +kernel
theorem dL_law_1306 : decode cL_law 1306 = .ok (.ireturn, 1) := by decide +kernel
theorem dL_law_1307 : decode cL_law 1307 = .ok (.aload_n 1, 1) := by decide +kernel
theorem dL_law_1308 : decode cL_law 1308 = .ok (.aload_n 0, 1) := by decide +kernel
theorem dL_law_1309 : decode cL_law 1309 = .ok (.iload_n 3, 1) := by decide +kernel
theorem dL_law_1310 : decode cL_law 1310 = .ok (.iconst 1, 1) := by decide +kernel
theorem dL_law_1311 : decode cL_law 1311 = .ok (.iadd, 1) := by decide +kernel
theorem dL_law_1312 : decode cL_law 1312 = .ok (.iaload, 1) := by decide +kernel
theorem dL_law_1313 : decode cL_law 1313 = .ok (.aload_n 0, 1) := by decide +kernel
theorem dL_law_1314 : decode cL_law 1314 = .ok (.iload_n 3, 1) := by decide +kernel
theorem dL_law_1315 : decode cL_law 1315 = .ok (.iconst 2, 1) := by decide +kernel
theorem dL_law_1316 : decode cL_law 1316 = .ok (.iadd, 1) := by decide +kernel
theorem dL_law_1317 : decode cL_law 1317 = .ok (.iaload, 1) := by decide +kernel
theorem dL_law_1318 : decode cL_law 1318 = .ok (.aload_n 0, 1) := by decide +kernel
theorem dL_law_1319 : decode cL_law 1319 = .ok (.iload_n 3, 1) := by decide +kernel
theorem dL_law_1320 : decode cL_law 1320 = .ok (.iconst 3, 1) := by decide +kernel
theorem dL_law_1321 : decode cL_law 1321 = .ok (.iadd, 1) := by decide +kernel
theorem dL_law_1322 : decode cL_law 1322 = .ok (.iaload, 1) := by decide +kernel
theorem dL_law_1323 : decode cL_law 1323 = .ok (.invokevirtual 159, 3) := by decide +kernel
theorem dL_law_1326 : decode cL_law 1326 = .ok (.aload_n 2, 1) := by decide +kernel
theorem dL_law_1327 : decode cL_law 1327 = .ok (.aload_n 0, 1) := by decide +kernel
theorem dL_law_1328 : decode cL_law 1328 = .ok (.iload_n 3, 1) := by decide +kernel
theorem dL_law_1329 : decode cL_law 1329 = .ok (.iconst 1, 1) := by decide +kernel
theorem dL_law_1330 : decode cL_law 1330 = .ok (.iadd, 1) := by decide +kernel
theorem dL_law_1331 : decode cL_law 1331 = .ok (.iaload, 1) := by decide +kernel
theorem dL_law_1332 : decode cL_law 1332 = .ok (.aload_n 0, 1) := by decide +kernel
theorem dL_law_1333 : decode cL_law 1333 = .ok (.iload_n 3, 1) := by decide +kernel
theorem dL_law_1334 : decode cL_law 1334 = .ok (.iconst 2, 1) := by decide +kernel
theorem dL_law_1335 : decode cL_law 1335 = .ok (.iadd, 1) := by decide +kernel
theorem dL_law_1336 : decode cL_law 1336 = .ok (.iaload, 1) := by decide +kernel
theorem dL_law_1337 : decode cL_law 1337 = .ok (.aload_n 0, 1) := by decide +kernel
theorem dL_law_1338 : decode cL_law 1338 = .ok (.iload_n 3, 1) := by decide +kernel
theorem dL_law_1339 : decode cL_law 1339 = .ok (.iconst 3, 1) := by decide +kernel
theorem dL_law_1340 : decode cL_law 1340 = .ok (.iadd, 1) := by decide +kernel
theorem dL_law_1341 : decode cL_law 1341 = .ok (.iaload, 1) := by decide +kernel
theorem dL_law_1342 : decode cL_law 1342 = .ok (.invokevirtual 162, 3) := by decide +kernel
theorem dL_law_1345 : decode cL_law 1345 = .ok (.if_icmp .eq 360, 3) := by decide +kernel
theorem dL_law_1348 : decode cL_law 1348 = .ok (.iconst 0, 1) := by decide +kernel
theorem dL_law_1349 : decode cL_law 1349 = .ok (.ireturn, 1) := by decide +kernel
theorem dL_law_1350 : decode cL_law 1350 = .ok (.aload_n 1, 1) := by decide +kernel
theorem dL_law_1351 : decode cL_law 1351 = .ok (.aload_n 0, 1) := by decide +kernel
theorem dL_law_1352 : decode cL_law 1352 = .ok (.iload_n 3, 1) := by decide +kernel
theorem dL_law_1353 : decode cL_law 1353 = .ok (.iconst 1, 1) := by decide +kernel
theorem dL_law_1354 : decode cL_law 1354 = .ok (.iadd, 1) := by decide +kernel
theorem dL_law_1355 : decode cL_law 1355 = .ok (.iaload, 1) := by decide +kernel
theorem dL_law_1356 : decode cL_law 1356 = .ok (.aload_n 0, 1) := by decide +kernel
theorem dL_law_1357 : decode cL_law 1357 = .ok (.iload_n 3, 1) := by decide +kernel
theorem dL_law_1358 : decode cL_law 1358 = .ok (.iconst 2, 1) := by decide +kernel
theorem dL_law_1359 : decode cL_law 1359 = .ok (.iadd, 1) := by decide +kernel
theorem dL_law_1360 : decode cL_law 1360 = .ok (.iaload, 1) := by decide +kernel
theorem dL_law_1361 : decode cL_law 1361 = .ok (.aload_n 0, 1) := by decide +kernel
theorem dL_law_1362 : decode cL_law 1362 = .ok (.iload_n 3, 1) := by decide +kernel
theorem dL_law_1363 : decode cL_law 1363 = .ok (.iconst 3, 1) := by decide +kernel
theorem dL_law_1364 : decode cL_law 1364 = .ok (.iadd, 1) := by decide +kernel
theorem dL_law_1365 : decode cL_law 1365 = .ok (.iaload, 1) := by decide +kernel
theorem dL_law_1366 : decode cL_law 1366 = .ok (.aload_n 0, 1) := by decide +kernel
theorem dL_law_1367 : decode cL_law 1367 = .ok (.iload_n 3, 1) := by decide +kernel
theorem dL_law_1368 : decode cL_law 1368 = .ok (.iconst 4, 1) := by decide +kernel
theorem dL_law_1369 : decode cL_law 1369 = .ok (.iadd, 1) := by decide +kernel
theorem dL_law_1370 : decode cL_law 1370 = .ok (.iaload, 1) := by decide +kernel
theorem dL_law_1371 : decode cL_law 1371 = .ok (.invokevirtual 163, 3) := by decide +kernel
theorem dL_law_1374 : decode cL_law 1374 = .ok (.aload_n 2, 1) := by decide +kernel
theorem dL_law_1375 : decode cL_law 1375 = .ok (.aload_n 0, 1) := by decide +kernel
theorem dL_law_1376 : decode cL_law 1376 = .ok (.iload_n 3, 1) := by decide +kernel
theorem dL_law_1377 : decode cL_law 1377 = .ok (.iconst 1, 1) := by decide +kernel
theorem dL_law_1378 : decode cL_law 1378 = .ok (.iadd, 1) := by decide +kernel
theorem dL_law_1379 : decode cL_law 1379 = .ok (.iaload, 1) := by decide +kernel
theorem dL_law_1380 : decode cL_law 1380 = .ok (.aload_n 0, 1) := by decide +kernel
theorem dL_law_1381 : decode cL_law 1381 = .ok (.iload_n 3, 1) := by decide +kernel
theorem dL_law_1382 : decode cL_law 1382 = .ok (.iconst 2, 1) := by decide +kernel
theorem dL_law_1383 : decode cL_law 1383 = .ok (.iadd, 1) := by decide +kernel
theorem dL_law_1384 : decode cL_law 1384 = .ok (.iaload, 1) := by decide +kernel
theorem dL_law_1385 : decode cL_law 1385 = .ok (.aload_n 0, 1) := by decide +kernel
theorem dL_law_1386 : decode cL_law 1386 = .ok (.iload_n 3, 1) := by decide +kernel
theorem dL_law_1387 : decode cL_law 1387 = .ok (.iconst 3, 1) := by decide +kernel
theorem dL_law_1388 : decode cL_law 1388 = .ok (.iadd, 1) := by decide +kernel
theorem dL_law_1389 : decode cL_law 1389 = .ok (.iaload, 1) := by decide +kernel
theorem dL_law_1390 : decode cL_law 1390 = .ok (.aload_n 0, 1) := by decide +kernel
theorem dL_law_1391 : decode cL_law 1391 = .ok (.iload_n 3, 1) := by decide +kernel
theorem dL_law_1392 : decode cL_law 1392 = .ok (.iconst 4, 1) := by decide +kernel
theorem dL_law_1393 : decode cL_law 1393 = .ok (.iadd, 1) := by decide +kernel
theorem dL_law_1394 : decode cL_law 1394 = .ok (.iaload, 1) := by decide +kernel
theorem dL_law_1395 : decode cL_law 1395 = .ok (.invokevirtual 166, 3) := by decide +kernel
theorem dL_law_1398 : decode cL_law 1398 = .ok (.if_icmp .eq 307, 3) := by decide +kernel
theorem dL_law_1401 : decode cL_law 1401 = .ok (.iconst 0, 1) := by decide +kernel
theorem dL_law_1402 : decode cL_law 1402 = .ok (.ireturn, 1) := by decide +kernel
theorem dL_law_1403 : decode cL_law 1403 = .ok (.aload_n 1, 1) := by decide +kernel
theorem dL_law_1404 : decode cL_law 1404 = .ok (.aload_n 0, 1) := by decide +kernel
theorem dL_law_1405 : decode cL_law 1405 = .ok (.iload_n 3, 1) := by decide +kernel
theorem dL_law_1406 : decode cL_law 1406 = .ok (.iconst 1, 1) := by decide +kernel
theorem dL_law_1407 : decode cL_law 1407 = .ok (.iadd, 1) := by decide +kernel
theorem dL_law_1408 : decode cL_law 1408 = .ok (.iaload, 1) := by decide +kernel
theorem dL_law_1409 : decode cL_law 1409 = .ok (.aload_n 0, 1) := by decide +kernel
theorem dL_law_1410 : decode cL_law 1410 = .ok (.iload_n 3, 1) := by decide +kernel
theorem dL_law_1411 : decode cL_law 1411 = .ok (.iconst 2, 1) := by decide +kernel
theorem dL_law_1412 : decode cL_law 1412 = .ok (.iadd, 1) := by decide +kernel
theorem dL_law_1413 : decode cL_law 1413 = .ok (.iaload, 1) := by decide +kernel
theorem dL_law_1414 : decode cL_law 1414 = .ok (.invokevirtual 167, 3) := by decide +kernel
theorem dL_law_1417 : decode cL_law 1417 = .ok (.aload_n 2, 1) := by decide +kernel
theorem dL_law_1418 : decode cL_law 1418 = .ok (.aload_n 0, 1) := by decide +kernel
theorem dL_law_1419 : decode cL_law 1419 = .ok (.iload_n 3, 1) := by decide +kernel
theorem dL_law_1420 : decode cL_law 1420 = .ok (.iconst 1, 1) := by decide +kernel
theorem dL_law_1421 : decode cL_law 1421 = .ok (.iadd, 1) := by decide +kernel
theorem dL_law_1422 : decode cL_law 1422 = .ok (.iaload, 1) := by decide +kernel
theorem dL_law_1423 : decode cL_law 1423 = .ok (.aload_n 0, 1) := by decide +kernel
theorem dL_law_1424 : decode cL_law 1424 = .ok (.iload_n 3, 1) := by decide +kernel
theorem dL_law_1425 : decode cL_law 1425 = .ok (.iconst 2, 1) := by decide +kernel
theorem dL_law_1426 : decode cL_law 1426 = .ok (.iadd, 1) := by decide +kernel
theorem dL_law_1427 : decode cL_law 1427 = .ok (.iaload, 1) := by decide +kernel
theorem dL_law_1428 : decode cL_law 1428 = .ok (.invokevirtual 170, 3) := by decide +kernel
theorem dL_law_1431 : decode cL_law 1431 = .ok (.if_icmp .eq 274, 3) := by decide +kernel
theorem dL_law_1434 : decode cL_law 1434 = .ok (.iconst 0, 1) := by decide +kernel
theorem dL_law_1435 : decode cL_law 1435 = .ok (.ireturn, 1) := by decide +kernel
theorem dL_law_1436 : decode cL_law 1436 = .ok (.aload_n 1, 1) := by decide +kernel
theorem dL_law_1437 : decode cL_law 1437 = .ok (.aload_n 0, 1) := by decide +kernel
theorem dL_law_1438 : decode cL_law 1438 = .ok (.iload_n 3, 1) := by decide +kernel
theorem dL_law_1439 : decode cL_law 1439 = .ok (.iconst 1, 1) := by decide +kernel
theorem dL_law_1440 : decode cL_law 1440 = .ok (.iadd, 1) := by decide +kernel
theorem dL_law_1441 : decode cL_law 1441 = .ok (.iaload, 1) := by decide +kernel
theorem dL_law_1442 : decode cL_law 1442 = .ok (.aload_n 0, 1) := by decide +kernel
theorem dL_law_1443 : decode cL_law 1443 = .ok (.iload_n 3, 1) := by decide +kernel
theorem dL_law_1444 : decode cL_law 1444 = .ok (.iconst 2, 1) := by decide +kernel
theorem dL_law_1445 : decode cL_law 1445 = .ok (.iadd, 1) := by decide +kernel
theorem dL_law_1446 : decode cL_law 1446 = .ok (.iaload, 1) := by decide +kernel
theorem dL_law_1447 : decode cL_law 1447 = .ok (.invokevirtual 171, 3) := by decide +kernel
theorem dL_law_1450 : decode cL_law 1450 = .ok (.aload_n 2, 1) := by decide +kernel
theorem dL_law_1451 : decode cL_law 1451 = .ok (.aload_n 0, 1) := by decide +kernel
theorem dL_law_1452 : decode cL_law 1452 = .ok (.iload_n 3, 1) := by decide +kernel
theorem dL_law_1453 : decode cL_law 1453 = .ok (.iconst 1, 1) := by decide +kernel
theorem dL_law_1454 : decode cL_law 1454 = .ok (.iadd, 1) := by decide +kernel
theorem dL_law_1455 : decode cL_law 1455 = .ok (.iaload, 1) := by decide +kernel
theorem dL_law_1456 : decode cL_law 1456 = .ok (.aload_n 0, 1) := by decide +kernel
theorem dL_law_1457 : decode cL_law 1457 = .ok (.iload_n 3, 1) := by decide +kernel
theorem dL_law_1458 : decode cL_law 1458 = .ok (.iconst 2, 1) := by decide +kernel
theorem dL_law_1459 : decode cL_law 1459 = .ok (.iadd, 1) := by decide +kernel
theorem dL_law_1460 : decode cL_law 1460 = .ok (.iaload, 1) := by decide +kernel
theorem dL_law_1461 : decode cL_law 1461 = .ok (.invokevirtual 174, 3) := by decide +kernel
theorem dL_law_1464 : decode cL_law 1464 = .ok (.if_icmp .eq 241, 3) := by decide +kernel
theorem dL_law_1467 : decode cL_law 1467 = .ok (.iconst 0, 1) := by decide +kernel
theorem dL_law_1468 : decode cL_law 1468 = .ok (.ireturn, 1) := by decide +kernel
theorem dL_law_1469 : decode cL_law 1469 = .ok (.aload_n 1, 1) := by decide +kernel
theorem dL_law_1470 : decode cL_law 1470 = .ok (.aload_n 0, 1) := by decide +kernel
theorem dL_law_1471 : decode cL_law 1471 = .ok (.iload_n 3, 1) := by decide +kernel
theorem dL_law_1472 : decode cL_law 1472 = .ok (.iconst 1, 1) := by decide +kernel
theorem dL_law_1473 : decode cL_law 1473 = .ok (.iadd, 1) := by decide +kernel
theorem dL_law_1474 : decode cL_law 1474 = .ok (.iaload, 1) := by decide +kernel
theorem dL_law_1475 : decode cL_law 1475 = .ok (.invokevirtual 175, 3) := by decide +kernel
theorem dL_law_1478 : decode cL_law 1478 = .ok (.aload_n 2, 1) := by decide +kernel
theorem dL_law_1479 : decode cL_law 1479 = .ok (.aload_n 0, 1) := by decide +kernel
theorem dL_law_1480 : decode cL_law 1480 = .ok (.iload_n 3, 1) := by decide +kernel
theorem dL_law_1481 : decode cL_law 1481 = .ok (.iconst 1, 1) := by decide +kernel
theorem dL_law_1482 : decode cL_law 1482 = .ok (.iadd, 1) := by decide +kernel
theorem dL_law_1483 : decode cL_law 1483 = .ok (.iaload, 1) := by decide +kernel
theorem dL_law_1484 : decode cL_law 1484 = .ok (.invokevirtual 178, 3) := by decide +kernel
theorem dL_law_1487 : decode cL_law 1487 = .ok (.if_icmp .eq 218, 3) := by decide +kernel
theorem dL_law_1490 : decode cL_law 1490 = .ok (.iconst 0, 1) := by decide +kernel
theorem dL_law_1491 : decode cL_law 1491 = .ok (.ireturn, 1) := by decide +kernel
theorem dL_law_1492 : decode cL_law 1492 = .ok (.aload_n 1, 1) := by decide +kernel
theorem dL_law_1493 : decode cL_law 1493 = .ok (.aload_n 0, 1) := by decide +kernel
theorem dL_law_1494 : decode cL_law 1494 = .ok (.iload_n 3, 1) := by decide +kernel
theorem dL_law_1495 : decode cL_law 1495 = .ok (.iconst 1, 1) := by decide +kernel
theorem dL_law_1496 : decode cL_law 1496 = .ok (.iadd, 1) := by decide +kernel
theorem dL_law_1497 : decode cL_law 1497 = .ok (.iaload, 1) := by decide +kernel
theorem dL_law_1498 : decode cL_law 1498 = .ok (.ifCond .eq 7, 3) := by decide +kernel
theorem dL_law_1501 : decode cL_law 1501 = .ok (.iconst 1, 1) := by decide +kernel
theorem dL_law_1502 : decode cL_law 1502 = .ok (.goto 4, 3) := by decide +kernel
theorem dL_law_1505 : decode cL_law 1505 = .ok (.iconst 0, 1) := by decide +kernel
theorem dL_law_1506 : decode cL_law 1506 = .ok (.invokevirtual 179, 3) := by decide +kernel
theorem dL_law_1509 : decode cL_law 1509 = .ok (.aload_n 2, 1) := by decide +kernel
theorem dL_law_1510 : decode cL_law 1510 = .ok (.aload_n 0, 1) := by decide +kernel
theorem dL_law_1511 : decode cL_law 1511 = .ok (.iload_n 3, 1) := by decide +kernel
theorem dL_law_1512 : decode cL_law 1512 = .ok (.iconst 1, 1) := by decide +kernel
theorem dL_law_1513 : decode cL_law 1513 = .ok (.iadd, 1) := by decide +kernel
theorem dL_law_1514 : decode cL_law 1514 = .ok (.iaload, 1) := by decide +kernel
theorem dL_law_1515 : decode cL_law 1515 = .ok (.ifCond .eq 7, 3) := by decide +kernel
theorem dL_law_1518 : decode cL_law 1518 = .ok (.iconst 1, 1) := by decide +kernel
theorem dL_law_1519 : decode cL_law 1519 = .ok (.goto 4, 3) := by decide +kernel
theorem dL_law_1522 : decode cL_law 1522 = .ok (.iconst 0, 1) := by decide +kernel
theorem dL_law_1523 : decode cL_law 1523 = .ok (.invokevirtual 182, 3) := by decide +kernel
theorem dL_law_1526 : decode cL_law 1526 = .ok (.if_icmp .eq 179, 3) := by decide +kernel
theorem dL_law_1529 : decode cL_law 1529 = .ok (.iconst 0, 1) := by decide +kernel
theorem dL_law_1530 : decode cL_law 1530 = .ok (.ireturn, 1) := by decide +kernel
theorem dL_law_1531 : decode cL_law 1531 = .ok (.aload_n 1, 1) := by decide +kernel
theorem dL_law_1532 : decode cL_law 1532 = .ok (.aload_n 0, 1) := by decide +kernel
theorem dL_law_1533 : decode cL_law 1533 = .ok (.iload_n 3, 1) := by decide +kernel
theorem dL_law_1534 : decode cL_law 1534 = .ok (.iconst 1, 1) := by decide +kernel
theorem dL_law_1535 : decode cL_law 1535 = .ok (.iadd, 1) := by decide +kernel
theorem dL_law_1536 : decode cL_law 1536 = .ok (.iaload, 1) := by decide +kernel
theorem dL_law_1537 : decode cL_law 1537 = .ok (.invokevirtual 183, 3) := by decide +kernel
theorem dL_law_1540 : decode cL_law 1540 = .ok (.aload_n 2, 1) := by decide +kernel
theorem dL_law_1541 : decode cL_law 1541 = .ok (.aload_n 0, 1) := by decide +kernel
theorem dL_law_1542 : decode cL_law 1542 = .ok (.iload_n 3, 1) := by decide +kernel
theorem dL_law_1543 : decode cL_law 1543 = .ok (.iconst 1, 1) := by decide +kernel
theorem dL_law_1544 : decode cL_law 1544 = .ok (.iadd, 1) := by decide +kernel
theorem dL_law_1545 : decode cL_law 1545 = .ok (.iaload, 1) := by decide +kernel
theorem dL_law_1546 : decode cL_law 1546 = .ok (.invokevirtual 186, 3) := by decide +kernel
theorem dL_law_1549 : decode cL_law 1549 = .ok (.if_icmp .eq 156, 3) := by decide +kernel
theorem dL_law_1552 : decode cL_law 1552 = .ok (.iconst 0, 1) := by decide +kernel
theorem dL_law_1553 : decode cL_law 1553 = .ok (.ireturn, 1) := by decide +kernel
theorem dL_law_1554 : decode cL_law 1554 = .ok (.aload_n 1, 1) := by decide +kernel
theorem dL_law_1555 : decode cL_law 1555 = .ok (.invokevirtual 187, 3) := by decide +kernel
theorem dL_law_1558 : decode cL_law 1558 = .ok (.aload_n 2, 1) := by decide +kernel
theorem dL_law_1559 : decode cL_law 1559 = .ok (.invokevirtual 190, 3) := by decide +kernel
theorem dL_law_1562 : decode cL_law 1562 = .ok (.if_icmp .eq 143, 3) := by decide +kernel
theorem dL_law_1565 : decode cL_law 1565 = .ok (.iconst 0, 1) := by decide +kernel
theorem dL_law_1566 : decode cL_law 1566 = .ok (.ireturn, 1) := by decide +kernel
theorem dL_law_1567 : decode cL_law 1567 = .ok (.aload_n 1, 1) := by decide +kernel
theorem dL_law_1568 : decode cL_law 1568 = .ok (.aload_n 0, 1) := by decide +kernel
theorem dL_law_1569 : decode cL_law 1569 = .ok (.iload_n 3, 1) := by decide +kernel
theorem dL_law_1570 : decode cL_law 1570 = .ok (.iconst 1, 1) := by decide +kernel
theorem dL_law_1571 : decode cL_law 1571 = .ok (.iadd, 1) := by decide +kernel
theorem dL_law_1572 : decode cL_law 1572 = .ok (.iaload, 1) := by decide +kernel
theorem dL_law_1573 : decode cL_law 1573 = .ok (.invokevirtual 191, 3) := by decide +kernel
theorem dL_law_1576 : decode cL_law 1576 = .ok (.aload_n 2, 1) := by decide +kernel
theorem dL_law_1577 : decode cL_law 1577 = .ok (.aload_n 0, 1) := by decide +kernel
theorem dL_law_1578 : decode cL_law 1578 = .ok (.iload_n 3, 1) := by decide +kernel
theorem dL_law_1579 : decode cL_law 1579 = .ok (.iconst 1, 1) := by decide +kernel
theorem dL_law_1580 : decode cL_law 1580 = .ok (.iadd, 1) := by decide +kernel
theorem dL_law_1581 : decode cL_law 1581 = .ok (.iaload, 1) := by decide +kernel
theorem dL_law_1582 : decode cL_law 1582 = .ok (.invokevirtual 194, 3) := by decide +kernel
theorem dL_law_1585 : decode cL_law 1585 = .ok (.if_icmp .eq 120, 3) := by decide +kernel
theorem dL_law_1588 : decode cL_law 1588 = .ok (.iconst 0, 1) := by decide +kernel
theorem dL_law_1589 : decode cL_law 1589 = .ok (.ireturn, 1) := by decide +kernel
theorem dL_law_1590 : decode cL_law 1590 = .ok (.aload_n 1, 1) := by decide +kernel
theorem dL_law_1591 : decode cL_law 1591 = .ok (.aload_n 0, 1) := by decide +kernel
theorem dL_law_1592 : decode cL_law 1592 = .ok (.iload_n 3, 1) := by decide +kernel
theorem dL_law_1593 : decode cL_law 1593 = .ok (.iconst 1, 1) := by decide +kernel
theorem dL_law_1594 : decode cL_law 1594 = .ok (.iadd, 1) := by decide +kernel
theorem dL_law_1595 : decode cL_law 1595 = .ok (.iaload, 1) := by decide +kernel
theorem dL_law_1596 : decode cL_law 1596 = .ok (.aload_n 0, 1) := by decide +kernel
theorem dL_law_1597 : decode cL_law 1597 = .ok (.iload_n 3, 1) := by decide +kernel
theorem dL_law_1598 : decode cL_law 1598 = .ok (.iconst 2, 1) := by decide +kernel
theorem dL_law_1599 : decode cL_law 1599 = .ok (.iadd, 1) := by decide +kernel
theorem dL_law_1600 : decode cL_law 1600 = .ok (.iaload, 1) := by decide +kernel
theorem dL_law_1601 : decode cL_law 1601 = .ok (.aload_n 0, 1) := by decide +kernel
theorem dL_law_1602 : decode cL_law 1602 = .ok (.iload_n 3, 1) := by decide +kernel
theorem dL_law_1603 : decode cL_law 1603 = .ok (.iconst 3, 1) := by decide +kernel
theorem dL_law_1604 : decode cL_law 1604 = .ok (.iadd, 1) := by decide +kernel
theorem dL_law_1605 : decode cL_law 1605 = .ok (.iaload, 1) := by decide +kernel
theorem dL_law_1606 : decode cL_law 1606 = .ok (.invokevirtual 195, 3) := by decide +kernel
theorem dL_law_1609 : decode cL_law 1609 = .ok (.aload_n 2, 1) := by decide +kernel
theorem dL_law_1610 : decode cL_law 1610 = .ok (.aload_n 0, 1) := by decide +kernel
theorem dL_law_1611 : decode cL_law 1611 = .ok (.iload_n 3, 1) := by decide +kernel
theorem dL_law_1612 : decode cL_law 1612 = .ok (.iconst 1, 1) := by decide +kernel
theorem dL_law_1613 : decode cL_law 1613 = .ok (.iadd, 1) := by decide +kernel
theorem dL_law_1614 : decode cL_law 1614 = .ok (.iaload, 1) := by decide +kernel
theorem dL_law_1615 : decode cL_law 1615 = .ok (.aload_n 0, 1) := by decide +kernel
theorem dL_law_1616 : decode cL_law 1616 = .ok (.iload_n 3, 1) := by decide +kernel
theorem dL_law_1617 : decode cL_law 1617 = .ok (.iconst 2, 1) := by decide +kernel
theorem dL_law_1618 : decode cL_law 1618 = .ok (.iadd, 1) := by decide +kernel
theorem dL_law_1619 : decode cL_law 1619 = .ok (.iaload, 1) := by decide +kernel
theorem dL_law_1620 : decode cL_law 1620 = .ok (.aload_n 0, 1) := by decide +kernel
theorem dL_law_1621 : decode cL_law 1621 = .ok (.iload_n 3, 1) := by decide +kernel
theorem dL_law_1622 : decode cL_law 1622 = .ok (.iconst 3, 1) := by decide +kernel
theorem dL_law_1623 : decode cL_law 1623 = .ok (.iadd, 1) := by decide +kernel
theorem dL_law_1624 : decode cL_law 1624 = .ok (.iaload, 1) := by decide +kernel
theorem dL_law_1625 : decode cL_law 1625 = .ok (.invokevirtual 198, 3) := by decide +kernel
theorem dL_law_1628 : decode cL_law 1628 = .ok (.if_icmp .eq 77, 3) := by decide +kernel
theorem dL_law_1631 : decode cL_law 1631 = .ok (.iconst 0, 1) := by decide +kernel
theorem dL_law_1632 : decode cL_law 1632 = .ok (.ireturn, 1) := by decide +kernel
theorem dL_law_1633 : decode cL_law 1633 = .ok (.aload_n 1, 1) := by decide +kernel
theorem dL_law_1634 : decode cL_law 1634 = .ok (.aload_n 0, 1) := by decide +kernel
theorem dL_law_1635 : decode cL_law 1635 = .ok (.iload_n 3, 1) := by decide +kernel
theorem dL_law_1636 : decode cL_law 1636 = .ok (.iconst 1, 1) := by decide +kernel
theorem dL_law_1637 : decode cL_law 1637 = .ok (.iadd, 1) := by decide +kernel
theorem dL_law_1638 : decode cL_law 1638 = .ok (.iaload, 1) := by decide +kernel
theorem dL_law_1639 : decode cL_law 1639 = .ok (.invokevirtual 199, 3) := by decide +kernel
theorem dL_law_1642 : decode cL_law 1642 = .ok (.aload_n 2, 1) := by decide +kernel
theorem dL_law_1643 : decode cL_law 1643 = .ok (.aload_n 0, 1) := by decide +kernel
theorem dL_law_1644 : decode cL_law 1644 = .ok (.iload_n 3, 1) := by decide +kernel
theorem dL_law_1645 : decode cL_law 1645 = .ok (.iconst 1, 1) := by decide +kernel
theorem dL_law_1646 : decode cL_law 1646 = .ok (.iadd, 1) := by decide +kernel
theorem dL_law_1647 : decode cL_law 1647 = .ok (.iaload, 1) := by decide +kernel
theorem dL_law_1648 : decode cL_law 1648 = .ok (.invokevirtual 202, 3) := by decide +kernel
theorem dL_law_1651 : decode cL_law 1651 = .ok (.if_icmp .eq 54, 3) := by decide +kernel
theorem dL_law_1654 : decode cL_law 1654 = .ok (.iconst 0, 1) := by decide +kernel
theorem dL_law_1655 : decode cL_law 1655 = .ok (.ireturn, 1) := by decide +kernel
theorem dL_law_1656 : decode cL_law 1656 = .ok (.aload_n 1, 1) := by decide +kernel
theorem dL_law_1657 : decode cL_law 1657 = .ok (.invokevirtual 203, 3) := by decide +kernel
theorem dL_law_1660 : decode cL_law 1660 = .ok (.aload_n 2, 1) := by decide +kernel
theorem dL_law_1661 : decode cL_law 1661 = .ok (.invokevirtual 206, 3) := by decide +kernel
theorem dL_law_1664 : decode cL_law 1664 = .ok (.if_icmp .eq 41, 3) := by decide +kernel
theorem dL_law_1667 : decode cL_law 1667 = .ok (.iconst 0, 1) := by decide +kernel
theorem dL_law_1668 : decode cL_law 1668 = .ok (.ireturn, 1) := by decide +kernel
theorem dL_law_1669 : decode cL_law 1669 = .ok (.aload_n 1, 1) := by decide +kernel
theorem dL_law_1670 : decode cL_law 1670 = .ok (.invokevirtual 207, 3) := by decide +kernel
theorem dL_law_1673 : decode cL_law 1673 = .ok (.aload_n 2, 1) := by decide +kernel
theorem dL_law_1674 : decode cL_law 1674 = .ok (.invokevirtual 210, 3) := by decide +kernel
theorem dL_law_1677 : decode cL_law 1677 = .ok (.if_icmp .eq 28, 3) := by decide +kernel
theorem dL_law_1680 : decode cL_law 1680 = .ok (.iconst 0, 1) := by decide +kernel
theorem dL_law_1681 : decode cL_law 1681 = .ok (.ireturn, 1) := by decide +kernel
theorem dL_law_1682 : decode cL_law 1682 = .ok (.aload_n 1, 1) := by decide +kernel
theorem dL_law_1683 : decode cL_law 1683 = .ok (.aload_n 0, 1) := by decide +kernel
theorem dL_law_1684 : decode cL_law 1684 = .ok (.iload_n 3, 1) := by decide +kernel
theorem dL_law_1685 : decode cL_law 1685 = .ok (.iconst 1, 1) := by decide +kernel
theorem dL_law_1686 : decode cL_law 1686 = .ok (.iadd, 1) := by decide +kernel
theorem dL_law_1687 : decode cL_law 1687 = .ok (.iaload, 1) := by decide +kernel
theorem dL_law_1688 : decode cL_law 1688 = .ok (.invokevirtual 211, 3) := by decide +kernel
theorem dL_law_1691 : decode cL_law 1691 = .ok (.aload_n 2, 1) := by decide +kernel
theorem dL_law_1692 : decode cL_law 1692 = .ok (.aload_n 0, 1) := by decide +kernel
theorem dL_law_1693 : decode cL_law 1693 = .ok (.iload_n 3, 1) := by decide +kernel
theorem dL_law_1694 : decode cL_law 1694 = .ok (.iconst 1, 1) := by decide +kernel
theorem dL_law_1695 : decode cL_law 1695 = .ok (.iadd, 1) := by decide +kernel
theorem dL_law_1696 : decode cL_law 1696 = .ok (.iaload, 1) := by decide +kernel
theorem dL_law_1697 : decode cL_law 1697 = .ok (.invokevirtual 214, 3) := by decide +kernel
theorem dL_law_1700 : decode cL_law 1700 = .ok (.if_icmp .eq 5, 3) := by decide +kernel
theorem dL_law_1703 : decode cL_law 1703 = .ok (.iconst 0, 1) := by decide +kernel
theorem dL_law_1704 : decode cL_law 1704 = .ok (.ireturn, 1) := by decide +kernel
theorem dL_law_1705 : decode cL_law 1705 = .ok (.iinc 3 6, 3) := by decide +kernel
theorem dL_law_1708 : decode cL_law 1708 = .ok (.goto (-1690), 3) := by decide +kernel
theorem dL_law_1711 : decode cL_law 1711 = .ok (.iconst 1, 1) := by decide +kernel
theorem dL_law_1712 : decode cL_law 1712 = .ok (.ireturn, 1) := by decide +kernel
theorem dX0_init_0 : decode cX0_init 0 = .ok (.aload_n 0, 1) := by decide +kernel
theorem dX0_init_1 : decode cX0_init 1 = .ok (.invokespecial 3, 3) := by decide +kernel
theorem dX0_init_4 : decode cX0_init 4 = .ok (.aload_n 0, 1) := by decide +kernel
theorem dX0_init_5 : decode cX0_init 5 = .ok (.bipush 24, 2) := by decide +kernel
theorem dX0_init_7 : decode cX0_init 7 = .ok (.newarray .long, 2) := by decide +kernel
theorem dX0_init_9 : decode cX0_init 9 = .ok (.putfield 9, 3) := by decide +kernel
theorem dX0_init_12 : decode cX0_init 12 = .ok (.aload_n 0, 1) := by decide +kernel
theorem dX0_init_13 : decode cX0_init 13 = .ok (.bipush 24, 2) := by decide +kernel
theorem dX0_init_15 : decode cX0_init 15 = .ok (.newarray .long, 2) := by decide +kernel
theorem dX0_init_17 : decode cX0_init 17 = .ok (.putfield 15, 3) := by decide +kernel
theorem dX0_init_20 : decode cX0_init 20 = .ok (.return_, 1) := by decide +kernel
theorem dX0_becomeLike_0 : decode cX0_becomeLike 0 = .ok (.aload_n 1, 1) := by decide +kernel
theorem dX0_becomeLike_1 : decode cX0_becomeLike 1 = .ok (.getfield 9, 3) := by decide +kernel
theorem dX0_becomeLike_4 : decode cX0_becomeLike 4 = .ok (.iconst 0, 1) := by decide +kernel
theorem dX0_becomeLike_5 : decode cX0_becomeLike 5 = .ok (.aload_n 0, 1) := by decide +kernel
theorem dX0_becomeLike_6 : decode cX0_becomeLike 6 = .ok (.getfield 9, 3) := by decide +kernel
theorem dX0_becomeLike_9 : decode cX0_becomeLike 9 = .ok (.iconst 0, 1) := by decide +kernel
theorem dX0_becomeLike_10 : decode cX0_becomeLike 10 = .ok (.bipush 24, 2) := by decide +kernel
theorem dX0_becomeLike_12 : decode cX0_becomeLike 12 = .ok (.invokestatic 18, 3) := by decide +kernel
theorem dX0_becomeLike_15 : decode cX0_becomeLike 15 = .ok (.return_, 1) := by decide +kernel
theorem dX0_becomeEven_0 : decode cX0_becomeEven 0 = .ok (.iconst 0, 1) := by decide +kernel
theorem dX0_becomeEven_1 : decode cX0_becomeEven 1 = .ok (.istore_n 2, 1) := by decide +kernel
theorem dX0_becomeEven_2 : decode cX0_becomeEven 2 = .ok (.iload_n 2, 1) := by decide +kernel
theorem dX0_becomeEven_3 : decode cX0_becomeEven 3 = .ok (.bipush 24, 2) := by decide +kernel
theorem dX0_becomeEven_5 : decode cX0_becomeEven 5 = .ok (.if_icmp .ge 25, 3) := by decide +kernel
theorem dX0_becomeEven_8 : decode cX0_becomeEven 8 = .ok (.aload_n 0, 1) := by decide +kernel
theorem dX0_becomeEven_9 : decode cX0_becomeEven 9 = .ok (.getfield 9, 3) := by decide +kernel
theorem dX0_becomeEven_12 : decode cX0_becomeEven 12 = .ok (.iload_n 2, 1) := by decide +kernel
theorem dX0_becomeEven_13 : decode cX0_becomeEven 13 = .ok (.iload_n 2, 1) := by decide +kernel
theorem dX0_becomeEven_14 : decode cX0_becomeEven 14 = .ok (.iload_n 1, 1) := by decide +kernel
theorem dX0_becomeEven_15 : decode cX0_becomeEven 15 = .ok (.if_icmp .ge 7, 3) := by decide +kernel
theorem dX0_becomeEven_18 : decode cX0_becomeEven 18 = .ok (.lconst 1, 1) := by decide +kernel
theorem dX0_becomeEven_19 : decode cX0_becomeEven 19 = .ok (.goto 4, 3) := by decide +kernel
theorem dX0_becomeEven_22 : decode cX0_becomeEven 22 = .ok (.lconst 0, 1) := by decide +kernel
theorem dX0_becomeEven_23 : decode cX0_becomeEven 23 = .ok (.lastore, 1) := by decide +kernel
theorem dX0_becomeEven_24 : decode cX0_becomeEven 24 = .ok (.iinc 2 1, 3) := by decide +kernel
theorem dX0_becomeEven_27 : decode cX0_becomeEven 27 = .ok (.goto (-25), 3) := by decide +kernel
theorem dX0_becomeEven_30 : decode cX0_becomeEven 30 = .ok (.return_, 1) := by decide +kernel
theorem dX0_becomeSure_0 : decode cX0_becomeSure 0 = .ok (.iconst 0, 1) := by decide +kernel
theorem dX0_becomeSure_1 : decode cX0_becomeSure 1 = .ok (.istore_n 2, 1) := by decide +kernel
theorem dX0_becomeSure_2 : decode cX0_becomeSure 2 = .ok (.iload_n 2, 1) := by decide +kernel
theorem dX0_becomeSure_3 : decode cX0_becomeSure 3 = .ok (.bipush 24, 2) := by decide +kernel
theorem dX0_becomeSure_5 : decode cX0_becomeSure 5 = .ok (.if_icmp .ge 25, 3) := by decide +kernel
theorem dX0_becomeSure_8 : decode cX0_becomeSure 8 = .ok (.aload_n 0, 1) := by decide +kernel
theorem dX0_becomeSure_9 : decode cX0_becomeSure 9 = .ok (.getfield 9, 3) := by decide +kernel
theorem dX0_becomeSure_12 : decode cX0_becomeSure 12 = .ok (.iload_n 2, 1) := by decide +kernel
theorem dX0_becomeSure_13 : decode cX0_becomeSure 13 = .ok (.iload_n 2, 1) := by decide +kernel
theorem dX0_becomeSure_14 : decode cX0_becomeSure 14 = .ok (.iload_n 1, 1) := by decide +kernel
theorem dX0_becomeSure_15 : decode cX0_becomeSure 15 = .ok (.if_icmp .ne 7, 3) := by decide +kernel
theorem dX0_becomeSure_18 : decode cX0_becomeSure 18 = .ok (.lconst 1, 1) := by decide +kernel
theorem dX0_becomeSure_19 : decode cX0_becomeSure 19 = .ok (.goto 4, 3) := by decide +kernel
theorem dX0_becomeSure_22 : decode cX0_becomeSure 22 = .ok (.lconst 0, 1) := by decide +kernel
theorem dX0_becomeSure_23 : decode cX0_becomeSure 23 = .ok (.lastore, 1) := by decide +kernel
theorem dX0_becomeSure_24 : decode cX0_becomeSure 24 = .ok (.iinc 2 1, 3) := by decide +kernel
theorem dX0_becomeSure_27 : decode cX0_becomeSure 27 = .ok (.goto (-25), 3) := by decide +kernel
theorem dX0_becomeSure_30 : decode cX0_becomeSure 30 = .ok (.return_, 1) := by decide +kernel
theorem dX0_at_0 : decode cX0_at 0 = .ok (.iload_n 1, 1) := by decide +kernel
theorem dX0_at_1 : decode cX0_at 1 = .ok (.ifCond .lt 9, 3) := by decide +kernel
theorem dX0_at_4 : decode cX0_at 4 = .ok (.iload_n 1, 1) := by decide +kernel
theorem dX0_at_5 : decode cX0_at 5 = .ok (.bipush 24, 2) := by decide +kernel
theorem dX0_at_7 : decode cX0_at 7 = .ok (.if_icmp .lt 7, 3) := by decide +kernel
theorem dX0_at_10 : decode cX0_at 10 = .ok (.lconst 0, 1) := by decide +kernel
theorem dX0_at_11 : decode cX0_at 11 = .ok (.goto 9, 3) := by decide +kernel
theorem dX0_at_14 : decode cX0_at 14 = .ok (.aload_n 0, 1) := by decide +kernel
theorem dX0_at_15 : decode cX0_at 15 = .ok (.getfield 9, 3) := by decide +kernel
theorem dX0_at_18 : decode cX0_at 18 = .ok (.iload_n 1, 1) := by decide +kernel
theorem dX0_at_19 : decode cX0_at 19 = .ok (.laload, 1) := by decide +kernel
theorem dX0_at_20 : decode cX0_at 20 = .ok (.lreturn, 1) := by decide +kernel
theorem dX0_all_0 : decode cX0_all 0 = .ok (.lconst 0, 1) := by decide +kernel
theorem dX0_all_1 : decode cX0_all 1 = .ok (.lstore_n 1, 1) := by decide +kernel
theorem dX0_all_2 : decode cX0_all 2 = .ok (.iconst 0, 1) := by decide +kernel
theorem dX0_all_3 : decode cX0_all 3 = .ok (.istore_n 3, 1) := by decide +kernel
theorem dX0_all_4 : decode cX0_all 4 = .ok (.iload_n 3, 1) := by decide +kernel
theorem dX0_all_5 : decode cX0_all 5 = .ok (.bipush 24, 2) := by decide +kernel
theorem dX0_all_7 : decode cX0_all 7 = .ok (.if_icmp .ge 18, 3) := by decide +kernel
theorem dX0_all_10 : decode cX0_all 10 = .ok (.lload_n 1, 1) := by decide +kernel
theorem dX0_all_11 : decode cX0_all 11 = .ok (.aload_n 0, 1) := by decide +kernel
theorem dX0_all_12 : decode cX0_all 12 = .ok (.getfield 9, 3) := by decide +kernel
theorem dX0_all_15 : decode cX0_all 15 = .ok (.iload_n 3, 1) := by decide +kernel
theorem dX0_all_16 : decode cX0_all 16 = .ok (.laload, 1) := by decide +kernel
theorem dX0_all_17 : decode cX0_all 17 = .ok (.ladd, 1) := by decide +kernel
theorem dX0_all_18 : decode cX0_all 18 = .ok (.lstore_n 1, 1) := by decide +kernel
theorem dX0_all_19 : decode cX0_all 19 = .ok (.iinc 3 1, 3) := by decide +kernel
theorem dX0_all_22 : decode cX0_all 22 = .ok (.goto (-18), 3) := by decide +kernel
theorem dX0_all_25 : decode cX0_all 25 = .ok (.lload_n 1, 1) := by decide +kernel
theorem dX0_all_26 : decode cX0_all 26 = .ok (.lreturn, 1) := by decide +kernel
theorem dX0_surest_0 : decode cX0_surest 0 = .ok (.iconst 0, 1) := by decide +kernel
theorem dX0_surest_1 : decode cX0_surest 1 = .ok (.istore_n 1, 1) := by decide +kernel
theorem dX0_surest_2 : decode cX0_surest 2 = .ok (.iconst 1, 1) := by decide +kernel
theorem dX0_surest_3 : decode cX0_surest 3 = .ok (.istore_n 2, 1) := by decide +kernel
theorem dX0_surest_4 : decode cX0_surest 4 = .ok (.iload_n 2, 1) := by decide +kernel
theorem dX0_surest_5 : decode cX0_surest 5 = .ok (.bipush 24, 2) := by decide +kernel
theorem dX0_surest_7 : decode cX0_surest 7 = .ok (.if_icmp .ge 27, 3) := by decide +kernel
theorem dX0_surest_10 : decode cX0_surest 10 = .ok (.aload_n 0, 1) := by decide +kernel
theorem dX0_surest_11 : decode cX0_surest 11 = .ok (.getfield 9, 3) := by decide +kernel
theorem dX0_surest_14 : decode cX0_surest 14 = .ok (.iload_n 2, 1) := by decide +kernel
theorem dX0_surest_15 : decode cX0_surest 15 = .ok (.laload, 1) := by decide +kernel
theorem dX0_surest_16 : decode cX0_surest 16 = .ok (.aload_n 0, 1) := by decide +kernel
theorem dX0_surest_17 : decode cX0_surest 17 = .ok (.getfield 9, 3) := by decide +kernel
theorem dX0_surest_20 : decode cX0_surest 20 = .ok (.iload_n 1, 1) := by decide +kernel
theorem dX0_surest_21 : decode cX0_surest 21 = .ok (.laload, 1) := by decide +kernel
theorem dX0_surest_22 : decode cX0_surest 22 = .ok (.lcmp, 1) := by decide +kernel
theorem dX0_surest_23 : decode cX0_surest 23 = .ok (.ifCond .le 5, 3) := by decide +kernel
theorem dX0_surest_26 : decode cX0_surest 26 = .ok (.iload_n 2, 1) := by decide +kernel
theorem dX0_surest_27 : decode cX0_surest 27 = .ok (.istore_n 1, 1) := by decide +kernel
theorem dX0_surest_28 : decode cX0_surest 28 = .ok (.iinc 2 1, 3) := by decide +kernel
theorem dX0_surest_31 : decode cX0_surest 31 = .ok (.goto (-27), 3) := by decide +kernel
theorem dX0_surest_34 : decode cX0_surest 34 = .ok (.iload_n 1, 1) := by decide +kernel
theorem dX0_surest_35 : decode cX0_surest 35 = .ok (.ireturn, 1) := by decide +kernel
theorem dX0_multiply_0 : decode cX0_multiply 0 = .ok (.iload_n 1, 1) := by decide +kernel
theorem dX0_multiply_1 : decode cX0_multiply 1 = .ok (.ifCond .lt 20, 3) := by decide +kernel
theorem dX0_multiply_4 : decode cX0_multiply 4 = .ok (.iload_n 1, 1) := by decide +kernel
theorem dX0_multiply_5 : decode cX0_multiply 5 = .ok (.bipush 24, 2) := by decide +kernel
theorem dX0_multiply_7 : decode cX0_multiply 7 = .ok (.if_icmp .ge 14, 3) := by decide +kernel
theorem dX0_multiply_10 : decode cX0_multiply 10 = .ok (.aload_n 0, 1) := by decide +kernel
theorem dX0_multiply_11 : decode cX0_multiply 11 = .ok (.getfield 9, 3) := by decide +kernel
theorem dX0_multiply_14 : decode cX0_multiply 14 = .ok (.iload_n 1, 1) := by decide +kernel
theorem dX0_multiply_15 : decode cX0_multiply 15 = .ok (.dup2, 1) := by decide +kernel
theorem dX0_multiply_16 : decode cX0_multiply 16 = .ok (.laload, 1) := by decide +kernel
theorem dX0_multiply_17 : decode cX0_multiply 17 = .ok (.iload_n 2, 1) := by decide +kernel
theorem dX0_multiply_18 : decode cX0_multiply 18 = .ok (.i2l, 1) := by decide +kernel
theorem dX0_multiply_19 : decode cX0_multiply 19 = .ok (.lmul, 1) := by decide +kernel
theorem dX0_multiply_20 : decode cX0_multiply 20 = .ok (.lastore, 1) := by decide +kernel
theorem dX0_multiply_21 : decode cX0_multiply 21 = .ok (.return_, 1) := by decide +kernel
theorem dX0_move_0 : decode cX0_move 0 = .ok (.iload_n 2, 1) := by decide +kernel
theorem dX0_move_1 : decode cX0_move 1 = .ok (.ifCond .lt 26, 3) := by decide +kernel
theorem dX0_move_4 : decode cX0_move 4 = .ok (.iload_n 2, 1) := by decide +kernel
theorem dX0_move_5 : decode cX0_move 5 = .ok (.bipush 24, 2) := by decide +kernel
theorem dX0_move_7 : decode cX0_move 7 = .ok (.if_icmp .ge 20, 3) := by decide +kernel
theorem dX0_move_10 : decode cX0_move 10 = .ok (.aload_n 0, 1) := by decide +kernel
theorem dX0_move_11 : decode cX0_move 11 = .ok (.getfield 15, 3) := by decide +kernel
theorem dX0_move_14 : decode cX0_move 14 = .ok (.iload_n 2, 1) := by decide +kernel
theorem dX0_move_15 : decode cX0_move 15 = .ok (.dup2, 1) := by decide +kernel
theorem dX0_move_16 : decode cX0_move 16 = .ok (.laload, 1) := by decide +kernel
theorem dX0_move_17 : decode cX0_move 17 = .ok (.aload_n 0, 1) := by decide +kernel
theorem dX0_move_18 : decode cX0_move 18 = .ok (.iload_n 1, 1) := by decide +kernel
theorem dX0_move_19 : decode cX0_move 19 = .ok (.invokevirtual 24, 3) := by decide +kernel
theorem dX0_move_22 : decode cX0_move 22 = .ok (.iload_n 3, 1) := by decide +kernel
theorem dX0_move_23 : decode cX0_move 23 = .ok (.i2l, 1) := by decide +kernel
theorem dX0_move_24 : decode cX0_move 24 = .ok (.lmul, 1) := by decide +kernel
theorem dX0_move_25 : decode cX0_move 25 = .ok (.ladd, 1) := by decide +kernel
theorem dX0_move_26 : decode cX0_move 26 = .ok (.lastore, 1) := by decide +kernel
theorem dX0_move_27 : decode cX0_move 27 = .ok (.return_, 1) := by decide +kernel
theorem dX0_endMoves_0 : decode cX0_endMoves 0 = .ok (.aload_n 0, 1) := by decide +kernel
theorem dX0_endMoves_1 : decode cX0_endMoves 1 = .ok (.getfield 15, 3) := by decide +kernel
theorem dX0_endMoves_4 : decode cX0_endMoves 4 = .ok (.iconst 0, 1) := by decide +kernel
theorem dX0_endMoves_5 : decode cX0_endMoves 5 = .ok (.aload_n 0, 1) := by decide +kernel
theorem dX0_endMoves_6 : decode cX0_endMoves 6 = .ok (.getfield 9, 3) := by decide +kernel
theorem dX0_endMoves_9 : decode cX0_endMoves 9 = .ok (.iconst 0, 1) := by decide +kernel
theorem dX0_endMoves_10 : decode cX0_endMoves 10 = .ok (.bipush 24, 2) := by decide +kernel
theorem dX0_endMoves_12 : decode cX0_endMoves 12 = .ok (.invokestatic 18, 3) := by decide +kernel
theorem dX0_endMoves_15 : decode cX0_endMoves 15 = .ok (.aload_n 0, 1) := by decide +kernel
theorem dX0_endMoves_16 : decode cX0_endMoves 16 = .ok (.getfield 15, 3) := by decide +kernel
theorem dX0_endMoves_19 : decode cX0_endMoves 19 = .ok (.lconst 0, 1) := by decide +kernel
theorem dX0_endMoves_20 : decode cX0_endMoves 20 = .ok (.invokestatic 28, 3) := by decide +kernel
theorem dX0_endMoves_23 : decode cX0_endMoves 23 = .ok (.return_, 1) := by decide +kernel
theorem dX0_lessen_0 : decode cX0_lessen 0 = .ok (.lconst 0, 1) := by decide +kernel
theorem dX0_lessen_1 : decode cX0_lessen 1 = .ok (.lstore_n 1, 1) := by decide +kernel
theorem dX0_lessen_2 : decode cX0_lessen 2 = .ok (.iconst 0, 1) := by decide +kernel
theorem dX0_lessen_3 : decode cX0_lessen 3 = .ok (.istore_n 3, 1) := by decide +kernel
theorem dX0_lessen_4 : decode cX0_lessen 4 = .ok (.iload_n 3, 1) := by decide +kernel
theorem dX0_lessen_5 : decode cX0_lessen 5 = .ok (.bipush 24, 2) := by decide +kernel
theorem dX0_lessen_7 : decode cX0_lessen 7 = .ok (.if_icmp .ge 26, 3) := by decide +kernel
theorem dX0_lessen_10 : decode cX0_lessen 10 = .ok (.lload_n 1, 1) := by decide +kernel
theorem dX0_lessen_11 : decode cX0_lessen 11 = .ok (.lconst 1, 1) := by decide +kernel
theorem dX0_lessen_12 : decode cX0_lessen 12 = .ok (.lcmp, 1) := by decide +kernel
theorem dX0_lessen_13 : decode cX0_lessen 13 = .ok (.ifCond .eq 20, 3) := by decide +kernel
theorem dX0_lessen_16 : decode cX0_lessen 16 = .ok (.lload_n 1, 1) := by decide +kernel
theorem dX0_lessen_17 : decode cX0_lessen 17 = .ok (.aload_n 0, 1) := by decide +kernel
theorem dX0_lessen_18 : decode cX0_lessen 18 = .ok (.getfield 9, 3) := by decide +kernel
theorem dX0_lessen_21 : decode cX0_lessen 21 = .ok (.iload_n 3, 1) := by decide +kernel
theorem dX0_lessen_22 : decode cX0_lessen 22 = .ok (.laload, 1) := by decide +kernel
theorem dX0_lessen_23 : decode cX0_lessen 23 = .ok (.invokestatic 34, 3) := by decide +kernel
theorem dX0_lessen_26 : decode cX0_lessen 26 = .ok (.lstore_n 1, 1) := by decide +kernel
theorem dX0_lessen_27 : decode cX0_lessen 27 = .ok (.iinc 3 1, 3) := by decide +kernel
theorem dX0_lessen_30 : decode cX0_lessen 30 = .ok (.goto (-26), 3) := by decide +kernel
theorem dX0_lessen_33 : decode cX0_lessen 33 = .ok (.iconst 0, 1) := by decide +kernel
theorem dX0_lessen_34 : decode cX0_lessen 34 = .ok (.istore_n 3, 1) := by decide +kernel
theorem dX0_lessen_35 : decode cX0_lessen 35 = .ok (.iload_n 3, 1) := by decide +kernel
theorem dX0_lessen_36 : decode cX0_lessen 36 = .ok (.bipush 24, 2) := by decide +kernel
theorem dX0_lessen_38 : decode cX0_lessen 38 = .ok (.if_icmp .ge 25, 3) := by decide +kernel
theorem dX0_lessen_41 : decode cX0_lessen 41 = .ok (.lload_n 1, 1) := by decide +kernel
theorem dX0_lessen_42 : decode cX0_lessen 42 = .ok (.lconst 1, 1) := by decide +kernel
theorem dX0_lessen_43 : decode cX0_lessen 43 = .ok (.lcmp, 1) := by decide +kernel
theorem dX0_lessen_44 : decode cX0_lessen 44 = .ok (.ifCond .le 19, 3) := by decide +kernel
theorem dX0_lessen_47 : decode cX0_lessen 47 = .ok (.aload_n 0, 1) := by decide +kernel
theorem dX0_lessen_48 : decode cX0_lessen 48 = .ok (.getfield 9, 3) := by decide +kernel
theorem dX0_lessen_51 : decode cX0_lessen 51 = .ok (.iload_n 3, 1) := by decide +kernel
theorem dX0_lessen_52 : decode cX0_lessen 52 = .ok (.dup2, 1) := by decide +kernel
theorem dX0_lessen_53 : decode cX0_lessen 53 = .ok (.laload, 1) := by decide +kernel
theorem dX0_lessen_54 : decode cX0_lessen 54 = .ok (.lload_n 1, 1) := by decide +kernel
theorem dX0_lessen_55 : decode cX0_lessen 55 = .ok (.ldiv, 1) := by decide +kernel
theorem dX0_lessen_56 : decode cX0_lessen 56 = .ok (.lastore, 1) := by decide +kernel
theorem dX0_lessen_57 : decode cX0_lessen 57 = .ok (.iinc 3 1, 3) := by decide +kernel
theorem dX0_lessen_60 : decode cX0_lessen 60 = .ok (.goto (-25), 3) := by decide +kernel
theorem dX0_lessen_63 : decode cX0_lessen 63 = .ok (.return_, 1) := by decide +kernel
theorem dX0_commonPart_0 : decode cX0_commonPart 0 = .ok (.lload_n 0, 1) := by decide +kernel
theorem dX0_commonPart_1 : decode cX0_commonPart 1 = .ok (.lstore 4, 2) := by decide +kernel
theorem dX0_commonPart_3 : decode cX0_commonPart 3 = .ok (.lload_n 2, 1) := by decide +kernel
theorem dX0_commonPart_4 : decode cX0_commonPart 4 = .ok (.lstore 6, 2) := by decide +kernel
theorem dX0_commonPart_6 : decode cX0_commonPart 6 = .ok (.iconst 0, 1) := by decide +kernel
theorem dX0_commonPart_7 : decode cX0_commonPart 7 = .ok (.istore 8, 2) := by decide +kernel
theorem dX0_commonPart_9 : decode cX0_commonPart 9 = .ok (.iload 8, 2) := by decide +kernel
theorem dX0_commonPart_11 : decode cX0_commonPart 11 = .ok (.sipush 200, 3) := by decide +kernel
theorem dX0_commonPart_14 : decode cX0_commonPart 14 = .ok (.if_icmp .ge 31, 3) := by decide +kernel
theorem dX0_commonPart_17 : decode cX0_commonPart 17 = .ok (.lload 6, 2) := by decide +kernel
theorem dX0_commonPart_19 : decode cX0_commonPart 19 = .ok (.lconst 0, 1) := by decide +kernel
theorem dX0_commonPart_20 : decode cX0_commonPart 20 = .ok (.lcmp, 1) := by decide +kernel
theorem dX0_commonPart_21 : decode cX0_commonPart 21 = .ok (.ifCond .eq 24, 3) := by decide +kernel
theorem dX0_commonPart_24 : decode cX0_commonPart 24 = .ok (.lload 4, 2) := by decide +kernel
theorem dX0_commonPart_26 : decode cX0_commonPart 26 = .ok (.lload 6, 2) := by decide +kernel
theorem dX0_commonPart_28 : decode cX0_commonPart 28 = .ok (.lrem, 1) := by decide +kernel
theorem dX0_commonPart_29 : decode cX0_commonPart 29 = .ok (.lstore 9, 2) := by decide +kernel
theorem dX0_commonPart_31 : decode cX0_commonPart 31 = .ok (.lload 6, 2) := by decide +kernel
theorem dX0_commonPart_33 : decode cX0_commonPart 33 = .ok (.lstore 4, 2) := by decide +kernel
theorem dX0_commonPart_35 : decode cX0_commonPart 35 = .ok (.lload 9, 2) := by decide +kernel
theorem dX0_commonPart_37 : decode cX0_commonPart 37 = .ok (.lstore 6, 2) := by decide +kernel
theorem dX0_commonPart_39 : decode cX0_commonPart 39 = .ok (.iinc 8 1, 3) := by decide +kernel
theorem dX0_commonPart_42 : decode cX0_commonPart 42 = .ok (.goto (-33), 3) := by decide +kernel
theorem dX0_commonPart_45 : decode cX0_commonPart 45 = .ok (.lload 4, 2) := by decide +kernel
theorem dX0_commonPart_47 : decode cX0_commonPart 47 = .ok (.lreturn, 1) := by decide +kernel
theorem dX1_init_0 : decode cX1_init 0 = .ok (.aload_n 0, 1) := by decide +kernel
theorem dX1_init_1 : decode cX1_init 1 = .ok (.invokespecial 3, 3) := by decide +kernel
theorem dX1_init_4 : decode cX1_init 4 = .ok (.aload_n 0, 1) := by decide +kernel
theorem dX1_init_5 : decode cX1_init 5 = .ok (.bipush 8, 2) := by decide +kernel
theorem dX1_init_7 : decode cX1_init 7 = .ok (.bipush 24, 2) := by decide +kernel
theorem dX1_init_9 : decode cX1_init 9 = .ok (.multianewarray 9 2, 4) := by decide +kernel
theorem dX1_init_13 : decode cX1_init 13 = .ok (.putfield 11, 3) := by decide +kernel
theorem dX1_init_16 : decode cX1_init 16 = .ok (.aload_n 0, 1) := by decide +kernel
theorem dX1_init_17 : decode cX1_init 17 = .ok (.bipush 9, 2) := by decide +kernel
theorem dX1_init_19 : decode cX1_init 19 = .ok (.bipush 24, 2) := by decide +kernel
theorem dX1_init_21 : decode cX1_init 21 = .ok (.multianewarray 16 2, 4) := by decide +kernel
theorem dX1_init_25 : decode cX1_init 25 = .ok (.putfield 18, 3) := by decide +kernel
theorem dX1_init_28 : decode cX1_init 28 = .ok (.aload_n 0, 1) := by decide +kernel
theorem dX1_init_29 : decode cX1_init 29 = .ok (.iconst 0, 1) := by decide +kernel
theorem dX1_init_30 : decode cX1_init 30 = .ok (.putfield 21, 3) := by decide +kernel
theorem dX1_init_33 : decode cX1_init 33 = .ok (.aload_n 0, 1) := by decide +kernel
theorem dX1_init_34 : decode cX1_init 34 = .ok (.iconst 0, 1) := by decide +kernel
theorem dX1_init_35 : decode cX1_init 35 = .ok (.putfield 25, 3) := by decide +kernel
theorem dX1_init_38 : decode cX1_init 38 = .ok (.return_, 1) := by decide +kernel
theorem dX1_lookFrom_0 : decode cX1_lookFrom 0 = .ok (.aload_n 0, 1) := by decide +kernel
theorem dX1_lookFrom_1 : decode cX1_lookFrom 1 = .ok (.aload_n 1, 1) := by decide +kernel
theorem dX1_lookFrom_2 : decode cX1_lookFrom 2 = .ok (.getfield 28, 3) := by decide +kernel
theorem dX1_lookFrom_5 : decode cX1_lookFrom 5 = .ok (.putfield 21, 3) := by decide +kernel
theorem dX1_lookFrom_8 : decode cX1_lookFrom 8 = .ok (.aload_n 0, 1) := by decide +kernel
theorem dX1_lookFrom_9 : decode cX1_lookFrom 9 = .ok (.aload_n 1, 1) := by decide +kernel
theorem dX1_lookFrom_10 : decode cX1_lookFrom 10 = .ok (.getfield 31, 3) := by decide +kernel
theorem dX1_lookFrom_13 : decode cX1_lookFrom 13 = .ok (.putfield 25, 3) := by decide +kernel
theorem dX1_lookFrom_16 : decode cX1_lookFrom 16 = .ok (.iconst 0, 1) := by decide +kernel
theorem dX1_lookFrom_17 : decode cX1_lookFrom 17 = .ok (.istore_n 2, 1) := by decide +kernel
theorem dX1_lookFrom_18 : decode cX1_lookFrom 18 = .ok (.iload_n 2, 1) := by decide +kernel
theorem dX1_lookFrom_19 : decode cX1_lookFrom 19 = .ok (.bipush 24, 2) := by decide +kernel
theorem dX1_lookFrom_21 : decode cX1_lookFrom 21 = .ok (.if_icmp .ge 25, 3) := by decide +kernel
theorem dX1_lookFrom_24 : decode cX1_lookFrom 24 = .ok (.aload_n 0, 1) := by decide +kernel
theorem dX1_lookFrom_25 : decode cX1_lookFrom 25 = .ok (.getfield 18, 3) := by decide +kernel
theorem dX1_lookFrom_28 : decode cX1_lookFrom 28 = .ok (.iconst 0, 1) := by decide +kernel
theorem dX1_lookFrom_29 : decode cX1_lookFrom 29 = .ok (.aaload, 1) := by decide +kernel
theorem dX1_lookFrom_30 : decode cX1_lookFrom 30 = .ok (.iload_n 2, 1) := by decide +kernel
theorem dX1_lookFrom_31 : decode cX1_lookFrom 31 = .ok (.aload_n 1, 1) := by decide +kernel
theorem dX1_lookFrom_32 : decode cX1_lookFrom 32 = .ok (.getfield 34, 3) := by decide +kernel
theorem dX1_lookFrom_35 : decode cX1_lookFrom 35 = .ok (.iload_n 2, 1) := by decide +kernel
theorem dX1_lookFrom_36 : decode cX1_lookFrom 36 = .ok (.invokevirtual 38, 3) := by decide +kernel
theorem dX1_lookFrom_39 : decode cX1_lookFrom 39 = .ok (.lastore, 1) := by decide +kernel
theorem dX1_lookFrom_40 : decode cX1_lookFrom 40 = .ok (.iinc 2 1, 3) := by decide +kernel
theorem dX1_lookFrom_43 : decode cX1_lookFrom 43 = .ok (.goto (-25), 3) := by decide +kernel
theorem dX1_lookFrom_46 : decode cX1_lookFrom 46 = .ok (.iconst 0, 1) := by decide +kernel
theorem dX1_lookFrom_47 : decode cX1_lookFrom 47 = .ok (.istore_n 2, 1) := by decide +kernel
theorem dX1_lookFrom_48 : decode cX1_lookFrom 48 = .ok (.iload_n 2, 1) := by decide +kernel
theorem dX1_lookFrom_49 : decode cX1_lookFrom 49 = .ok (.bipush 8, 2) := by decide +kernel
theorem dX1_lookFrom_51 : decode cX1_lookFrom 51 = .ok (.if_icmp .ge 51, 3) := by decide +kernel
theorem dX1_lookFrom_54 : decode cX1_lookFrom 54 = .ok (.aload_n 1, 1) := by decide +kernel
theorem dX1_lookFrom_55 : decode cX1_lookFrom 55 = .ok (.iload_n 2, 1) := by decide +kernel
theorem dX1_lookFrom_56 : decode cX1_lookFrom 56 = .ok (.invokevirtual 44, 3) := by decide +kernel
theorem dX1_lookFrom_59 : decode cX1_lookFrom 59 = .ok (.astore_n 3, 1) := by decide +kernel
theorem dX1_lookFrom_60 : decode cX1_lookFrom 60 = .ok (.iconst 0, 1) := by decide +kernel
theorem dX1_lookFrom_61 : decode cX1_lookFrom 61 = .ok (.istore 4, 2) := by decide +kernel
theorem dX1_lookFrom_63 : decode cX1_lookFrom 63 = .ok (.iload 4, 2) := by decide +kernel
theorem dX1_lookFrom_65 : decode cX1_lookFrom 65 = .ok (.bipush 24, 2) := by decide +kernel
theorem dX1_lookFrom_67 : decode cX1_lookFrom 67 = .ok (.if_icmp .ge 29, 3) := by decide +kernel
theorem dX1_lookFrom_70 : decode cX1_lookFrom 70 = .ok (.aload_n 3, 1) := by decide +kernel
theorem dX1_lookFrom_71 : decode cX1_lookFrom 71 = .ok (.ifnull 25, 3) := by decide +kernel
theorem dX1_lookFrom_74 : decode cX1_lookFrom 74 = .ok (.aload_n 0, 1) := by decide +kernel
theorem dX1_lookFrom_75 : decode cX1_lookFrom 75 = .ok (.getfield 11, 3) := by decide +kernel
theorem dX1_lookFrom_78 : decode cX1_lookFrom 78 = .ok (.iload_n 2, 1) := by decide +kernel
theorem dX1_lookFrom_79 : decode cX1_lookFrom 79 = .ok (.aaload, 1) := by decide +kernel
theorem dX1_lookFrom_80 : decode cX1_lookFrom 80 = .ok (.iload 4, 2) := by decide +kernel
theorem dX1_lookFrom_82 : decode cX1_lookFrom 82 = .ok (.aload_n 1, 1) := by decide +kernel
theorem dX1_lookFrom_83 : decode cX1_lookFrom 83 = .ok (.aload_n 3, 1) := by decide +kernel
theorem dX1_lookFrom_84 : decode cX1_lookFrom 84 = .ok (.iload 4, 2) := by decide +kernel
theorem dX1_lookFrom_86 : decode cX1_lookFrom 86 = .ok (.invokevirtual 48, 3) := by decide +kernel
theorem dX1_lookFrom_89 : decode cX1_lookFrom 89 = .ok (.iastore, 1) := by decide +kernel
theorem dX1_lookFrom_90 : decode cX1_lookFrom 90 = .ok (.iinc 4 1, 3) := by decide +kernel
theorem dX1_lookFrom_93 : decode cX1_lookFrom 93 = .ok (.goto (-30), 3) := by decide +kernel
theorem dX1_lookFrom_96 : decode cX1_lookFrom 96 = .ok (.iinc 2 1, 3) := by decide +kernel
theorem dX1_lookFrom_99 : decode cX1_lookFrom 99 = .ok (.goto (-51), 3) := by decide +kernel
theorem dX1_lookFrom_102 : decode cX1_lookFrom 102 = .ok (.return_, 1) := by decide +kernel
theorem dX1_worthOf_0 : decode cX1_worthOf 0 = .ok (.aload_n 0, 1) := by decide +kernel
theorem dX1_worthOf_1 : decode cX1_worthOf 1 = .ok (.iload_n 1, 1) := by decide +kernel
theorem dX1_worthOf_2 : decode cX1_worthOf 2 = .ok (.iconst 0, 1) := by decide +kernel
theorem dX1_worthOf_3 : decode cX1_worthOf 3 = .ok (.invokestatic 52, 3) := by decide +kernel
theorem dX1_worthOf_6 : decode cX1_worthOf 6 = .ok (.lreturn, 1) := by decide +kernel
theorem dX1_bestAlone_0 : decode cX1_bestAlone 0 = .ok (.iconst (-1), 1) := by decide +kernel
theorem dX1_bestAlone_1 : decode cX1_bestAlone 1 = .ok (.istore_n 1, 1) := by decide +kernel
theorem dX1_bestAlone_2 : decode cX1_bestAlone 2 = .ok (.ldc2_w 56, 3) := by decide +kernel
theorem dX1_bestAlone_5 : decode cX1_bestAlone 5 = .ok (.lstore_n 2, 1) := by decide +kernel
theorem dX1_bestAlone_6 : decode cX1_bestAlone 6 = .ok (.iconst 0, 1) := by decide +kernel
theorem dX1_bestAlone_7 : decode cX1_bestAlone 7 = .ok (.istore 4, 2) := by decide +kernel
theorem dX1_bestAlone_9 : decode cX1_bestAlone 9 = .ok (.iload 4, 2) := by decide +kernel
theorem dX1_bestAlone_11 : decode cX1_bestAlone 11 = .ok (.aload_n 0, 1) := by decide +kernel
theorem dX1_bestAlone_12 : decode cX1_bestAlone 12 = .ok (.getfield 21, 3) := by decide +kernel
theorem dX1_bestAlone_15 : decode cX1_bestAlone 15 = .ok (.if_icmp .ge 33, 3) := by decide +kernel
theorem dX1_bestAlone_18 : decode cX1_bestAlone 18 = .ok (.aload_n 0, 1) := by decide +kernel
theorem dX1_bestAlone_19 : decode cX1_bestAlone 19 = .ok (.iconst 1, 1) := by decide +kernel
theorem dX1_bestAlone_20 : decode cX1_bestAlone 20 = .ok (.iload 4, 2) := by decide +kernel
theorem dX1_bestAlone_22 : decode cX1_bestAlone 22 = .ok (.ishl, 1) := by decide +kernel
theorem dX1_bestAlone_23 : decode cX1_bestAlone 23 = .ok (.iconst 0, 1) := by decide +kernel
theorem dX1_bestAlone_24 : decode cX1_bestAlone 24 = .ok (.invokestatic 52, 3) := by decide +kernel
theorem dX1_bestAlone_27 : decode cX1_bestAlone 27 = .ok (.lstore 5, 2) := by decide +kernel
theorem dX1_bestAlone_29 : decode cX1_bestAlone 29 = .ok (.lload 5, 2) := by decide +kernel
theorem dX1_bestAlone_31 : decode cX1_bestAlone 31 = .ok (.lload_n 2, 1) := by decide +kernel
theorem dX1_bestAlone_32 : decode cX1_bestAlone 32 = .ok (.lcmp, 1) := by decide +kernel
theorem dX1_bestAlone_33 : decode cX1_bestAlone 33 = .ok (.ifCond .le 9, 3) := by decide +kernel
theorem dX1_bestAlone_36 : decode cX1_bestAlone 36 = .ok (.iload 4, 2) := by decide +kernel
theorem dX1_bestAlone_38 : decode cX1_bestAlone 38 = .ok (.istore_n 1, 1) := by decide +kernel
theorem dX1_bestAlone_39 : decode cX1_bestAlone 39 = .ok (.lload 5, 2) := by decide +kernel
theorem dX1_bestAlone_41 : decode cX1_bestAlone 41 = .ok (.lstore_n 2, 1) := by decide +kernel
theorem dX1_bestAlone_42 : decode cX1_bestAlone 42 = .ok (.iinc 4 1, 3) := by decide +kernel
theorem dX1_bestAlone_45 : decode cX1_bestAlone 45 = .ok (.goto (-36), 3) := by decide +kernel
theorem dX1_bestAlone_48 : decode cX1_bestAlone 48 = .ok (.iload_n 1, 1) := by decide +kernel
theorem dX1_bestAlone_49 : decode cX1_bestAlone 49 = .ok (.ireturn, 1) := by decide +kernel
theorem dX1_bestOfTwo_0 : decode cX1_bestOfTwo 0 = .ok (.iconst (-1), 1) := by decide +kernel
theorem dX1_bestOfTwo_1 : decode cX1_bestOfTwo 1 = .ok (.istore_n 1, 1) := by decide +kernel
theorem dX1_bestOfTwo_2 : decode cX1_bestOfTwo 2 = .ok (.ldc2_w 56, 3) := by decide +kernel
theorem dX1_bestOfTwo_5 : decode cX1_bestOfTwo 5 = .ok (.lstore_n 2, 1) := by decide +kernel
theorem dX1_bestOfTwo_6 : decode cX1_bestOfTwo 6 = .ok (.iconst 0, 1) := by decide +kernel
theorem dX1_bestOfTwo_7 : decode cX1_bestOfTwo 7 = .ok (.istore 4, 2) := by decide +kernel
theorem dX1_bestOfTwo_9 : decode cX1_bestOfTwo 9 = .ok (.iload 4, 2) := by decide +kernel
theorem dX1_bestOfTwo_11 : decode cX1_bestOfTwo 11 = .ok (.aload_n 0, 1) := by decide +kernel
theorem dX1_bestOfTwo_12 : decode cX1_bestOfTwo 12 = .ok (.getfield 21, 3) := by decide +kernel
theorem dX1_bestOfTwo_15 : decode cX1_bestOfTwo 15 = .ok (.if_icmp .ge 59, 3) := by decide +kernel
theorem dX1_bestOfTwo_18 : decode cX1_bestOfTwo 18 = .ok (.aload_n 0, 1) := by decide +kernel
theorem dX1_bestOfTwo_19 : decode cX1_bestOfTwo 19 = .ok (.iconst 0, 1) := by decide +kernel
theorem dX1_bestOfTwo_20 : decode cX1_bestOfTwo 20 = .ok (.iload 4, 2) := by decide +kernel
theorem dX1_bestOfTwo_22 : decode cX1_bestOfTwo 22 = .ok (.iconst 1, 1) := by decide +kernel
theorem dX1_bestOfTwo_23 : decode cX1_bestOfTwo 23 = .ok (.invokevirtual 58, 3) := by decide +kernel
theorem dX1_bestOfTwo_26 : decode cX1_bestOfTwo 26 = .ok (.pop, 1) := by decide +kernel
theorem dX1_bestOfTwo_27 : decode cX1_bestOfTwo 27 = .ok (.aload_n 0, 1) := by decide +kernel
theorem dX1_bestOfTwo_28 : decode cX1_bestOfTwo 28 = .ok (.iload 4, 2) := by decide +kernel
theorem dX1_bestOfTwo_30 : decode cX1_bestOfTwo 30 = .ok (.invokevirtual 62, 3) := by decide +kernel
theorem dX1_bestOfTwo_33 : decode cX1_bestOfTwo 33 = .ok (.lstore 5, 2) := by decide +kernel
theorem dX1_bestOfTwo_35 : decode cX1_bestOfTwo 35 = .ok (.aload_n 0, 1) := by decide +kernel
theorem dX1_bestOfTwo_36 : decode cX1_bestOfTwo 36 = .ok (.iconst 0, 1) := by decide +kernel
theorem dX1_bestOfTwo_37 : decode cX1_bestOfTwo 37 = .ok (.iload 4, 2) := by decide +kernel
theorem dX1_bestOfTwo_39 : decode cX1_bestOfTwo 39 = .ok (.iconst 0, 1) := by decide +kernel
theorem dX1_bestOfTwo_40 : decode cX1_bestOfTwo 40 = .ok (.invokevirtual 58, 3) := by decide +kernel
theorem dX1_bestOfTwo_43 : decode cX1_bestOfTwo 43 = .ok (.pop, 1) := by decide +kernel
theorem dX1_bestOfTwo_44 : decode cX1_bestOfTwo 44 = .ok (.lload 5, 2) := by decide +kernel
theorem dX1_bestOfTwo_46 : decode cX1_bestOfTwo 46 = .ok (.aload_n 0, 1) := by decide +kernel
theorem dX1_bestOfTwo_47 : decode cX1_bestOfTwo 47 = .ok (.iload 4, 2) := by decide +kernel
theorem dX1_bestOfTwo_49 : decode cX1_bestOfTwo 49 = .ok (.invokevirtual 62, 3) := by decide +kernel
theorem dX1_bestOfTwo_52 : decode cX1_bestOfTwo 52 = .ok (.ladd, 1) := by decide +kernel
theorem dX1_bestOfTwo_53 : decode cX1_bestOfTwo 53 = .ok (.lstore 5, 2) := by decide +kernel
theorem dX1_bestOfTwo_55 : decode cX1_bestOfTwo 55 = .ok (.lload 5, 2) := by decide +kernel
theorem dX1_bestOfTwo_57 : decode cX1_bestOfTwo 57 = .ok (.lload_n 2, 1) := by decide +kernel
theorem dX1_bestOfTwo_58 : decode cX1_bestOfTwo 58 = .ok (.lcmp, 1) := by decide +kernel
theorem dX1_bestOfTwo_59 : decode cX1_bestOfTwo 59 = .ok (.ifCond .le 9, 3) := by decide +kernel
theorem dX1_bestOfTwo_62 : decode cX1_bestOfTwo 62 = .ok (.iload 4, 2) := by decide +kernel
theorem dX1_bestOfTwo_64 : decode cX1_bestOfTwo 64 = .ok (.istore_n 1, 1) := by decide +kernel
theorem dX1_bestOfTwo_65 : decode cX1_bestOfTwo 65 = .ok (.lload 5, 2) := by decide +kernel
theorem dX1_bestOfTwo_67 : decode cX1_bestOfTwo 67 = .ok (.lstore_n 2, 1) := by decide +kernel
theorem dX1_bestOfTwo_68 : decode cX1_bestOfTwo 68 = .ok (.iinc 4 1, 3) := by decide +kernel
theorem dX1_bestOfTwo_71 : decode cX1_bestOfTwo 71 = .ok (.goto (-62), 3) := by decide +kernel
theorem dX1_bestOfTwo_74 : decode cX1_bestOfTwo 74 = .ok (.iload_n 1, 1) := by decide +kernel
theorem dX1_bestOfTwo_75 : decode cX1_bestOfTwo 75 = .ok (.ireturn, 1) := by decide +kernel
theorem dX1_bestMoreBut_0 : decode cX1_bestMoreBut 0 = .ok (.ldc2_w 65, 3) := by decide +kernel
theorem dX1_bestMoreBut_3 : decode cX1_bestMoreBut 3 = .ok (.aload_n 0, 1) := by decide +kernel
theorem dX1_bestMoreBut_4 : decode cX1_bestMoreBut 4 = .ok (.iconst 1, 1) := by decide +kernel
theorem dX1_bestMoreBut_5 : decode cX1_bestMoreBut 5 = .ok (.invokevirtual 67, 3) := by decide +kernel
theorem dX1_bestMoreBut_8 : decode cX1_bestMoreBut 8 = .ok (.lmul, 1) := by decide +kernel
theorem dX1_bestMoreBut_9 : decode cX1_bestMoreBut 9 = .ok (.lstore_n 2, 1) := by decide +kernel
theorem dX1_bestMoreBut_10 : decode cX1_bestMoreBut 10 = .ok (.iconst 0, 1) := by decide +kernel
theorem dX1_bestMoreBut_11 : decode cX1_bestMoreBut 11 = .ok (.istore 4, 2) := by decide +kernel
theorem dX1_bestMoreBut_13 : decode cX1_bestMoreBut 13 = .ok (.iload 4, 2) := by decide +kernel
theorem dX1_bestMoreBut_15 : decode cX1_bestMoreBut 15 = .ok (.aload_n 0, 1) := by decide +kernel
theorem dX1_bestMoreBut_16 : decode cX1_bestMoreBut 16 = .ok (.getfield 21, 3) := by decide +kernel
theorem dX1_bestMoreBut_19 : decode cX1_bestMoreBut 19 = .ok (.if_icmp .ge 29, 3) := by decide +kernel
theorem dX1_bestMoreBut_22 : decode cX1_bestMoreBut 22 = .ok (.iload 4, 2) := by decide +kernel
theorem dX1_bestMoreBut_24 : decode cX1_bestMoreBut 24 = .ok (.iload_n 1, 1) := by decide +kernel
theorem dX1_bestMoreBut_25 : decode cX1_bestMoreBut 25 = .ok (.if_icmp .eq 17, 3) := by decide +kernel
theorem dX1_bestMoreBut_28 : decode cX1_bestMoreBut 28 = .ok (.lload_n 2, 1) := by decide +kernel
theorem dX1_bestMoreBut_29 : decode cX1_bestMoreBut 29 = .ok (.aload_n 0, 1) := by decide +kernel
theorem dX1_bestMoreBut_30 : decode cX1_bestMoreBut 30 = .ok (.iconst 1, 1) := by decide +kernel
theorem dX1_bestMoreBut_31 : decode cX1_bestMoreBut 31 = .ok (.iload 4, 2) := by decide +kernel
theorem dX1_bestMoreBut_33 : decode cX1_bestMoreBut 33 = .ok (.ishl, 1) := by decide +kernel
theorem dX1_bestMoreBut_34 : decode cX1_bestMoreBut 34 = .ok (.iconst 1, 1) := by decide +kernel
theorem dX1_bestMoreBut_35 : decode cX1_bestMoreBut 35 = .ok (.invokestatic 52, 3) := by decide +kernel
theorem dX1_bestMoreBut_38 : decode cX1_bestMoreBut 38 = .ok (.invokestatic 70, 3) := by decide +kernel
theorem dX1_bestMoreBut_41 : decode cX1_bestMoreBut 41 = .ok (.lstore_n 2, 1) := by decide +kernel
theorem dX1_bestMoreBut_42 : decode cX1_bestMoreBut 42 = .ok (.iinc 4 1, 3) := by decide +kernel
theorem dX1_bestMoreBut_45 : decode cX1_bestMoreBut 45 = .ok (.goto (-32), 3) := by decide +kernel
theorem dX1_bestMoreBut_48 : decode cX1_bestMoreBut 48 = .ok (.lload_n 2, 1) := by decide +kernel
theorem dX1_bestMoreBut_49 : decode cX1_bestMoreBut 49 = .ok (.lreturn, 1) := by decide +kernel
theorem dX1_fewestFor_0 : decode cX1_fewestFor 0 = .ok (.iconst 0, 1) := by decide +kernel
theorem dX1_fewestFor_1 : decode cX1_fewestFor 1 = .ok (.istore 4, 2) := by decide +kernel
theorem dX1_fewestFor_3 : decode cX1_fewestFor 3 = .ok (.iload 4, 2) := by decide +kernel
theorem dX1_fewestFor_5 : decode cX1_fewestFor 5 = .ok (.aload_n 0, 1) := by decide +kernel
theorem dX1_fewestFor_6 : decode cX1_fewestFor 6 = .ok (.getfield 21, 3) := by decide +kernel
theorem dX1_fewestFor_9 : decode cX1_fewestFor 9 = .ok (.if_icmp .gt 55, 3) := by decide +kernel
theorem dX1_fewestFor_12 : decode cX1_fewestFor 12 = .ok (.iconst 0, 1) := by decide +kernel
theorem dX1_fewestFor_13 : decode cX1_fewestFor 13 = .ok (.istore 5, 2) := by decide +kernel
theorem dX1_fewestFor_15 : decode cX1_fewestFor 15 = .ok (.iload 5, 2) := by decide +kernel
theorem dX1_fewestFor_17 : decode cX1_fewestFor 17 = .ok (.iconst 1, 1) := by decide +kernel
theorem dX1_fewestFor_18 : decode cX1_fewestFor 18 = .ok (.aload_n 0, 1) := by decide +kernel
theorem dX1_fewestFor_19 : decode cX1_fewestFor 19 = .ok (.getfield 21, 3) := by decide +kernel
theorem dX1_fewestFor_22 : decode cX1_fewestFor 22 = .ok (.ishl, 1) := by decide +kernel
theorem dX1_fewestFor_23 : decode cX1_fewestFor 23 = .ok (.if_icmp .ge 35, 3) := by decide +kernel
theorem dX1_fewestFor_26 : decode cX1_fewestFor 26 = .ok (.iload 5, 2) := by decide +kernel
theorem dX1_fewestFor_28 : decode cX1_fewestFor 28 = .ok (.invokestatic 76, 3) := by decide +kernel
theorem dX1_fewestFor_31 : decode cX1_fewestFor 31 = .ok (.iload 4, 2) := by decide +kernel
theorem dX1_fewestFor_33 : decode cX1_fewestFor 33 = .ok (.if_icmp .ne 19, 3) := by decide +kernel
theorem dX1_fewestFor_36 : decode cX1_fewestFor 36 = .ok (.aload_n 0, 1) := by decide +kernel
theorem dX1_fewestFor_37 : decode cX1_fewestFor 37 = .ok (.iload 5, 2) := by decide +kernel
theorem dX1_fewestFor_39 : decode cX1_fewestFor 39 = .ok (.iload 4, 2) := by decide +kernel
theorem dX1_fewestFor_41 : decode cX1_fewestFor 41 = .ok (.iload_n 1, 1) := by decide +kernel
theorem dX1_fewestFor_42 : decode cX1_fewestFor 42 = .ok (.lload_n 2, 1) := by decide +kernel
theorem dX1_fewestFor_43 : decode cX1_fewestFor 43 = .ok (.invokevirtual 82, 3) := by decide +kernel
theorem dX1_fewestFor_46 : decode cX1_fewestFor 46 = .ok (.ifCond .eq 6, 3) := by decide +kernel
theorem dX1_fewestFor_49 : decode cX1_fewestFor 49 = .ok (.iload 5, 2) := by decide +kernel
theorem dX1_fewestFor_51 : decode cX1_fewestFor 51 = .ok (.ireturn, 1) := by decide +kernel
theorem dX1_fewestFor_52 : decode cX1_fewestFor 52 = .ok (.iinc 5 1, 3) := by decide +kernel
theorem dX1_fewestFor_55 : decode cX1_fewestFor 55 = .ok (.goto (-40), 3) := by decide +kernel
theorem dX1_fewestFor_58 : decode cX1_fewestFor 58 = .ok (.iinc 4 1, 3) := by decide +kernel
theorem dX1_fewestFor_61 : decode cX1_fewestFor 61 = .ok (.goto (-58), 3) := by decide +kernel
theorem dX1_fewestFor_64 : decode cX1_fewestFor 64 = .ok (.iconst (-1), 1) := by decide +kernel
theorem dX1_fewestFor_65 : decode cX1_fewestFor 65 = .ok (.ireturn, 1) := by decide +kernel
theorem dX1_reaches_0 : decode cX1_reaches 0 = .ok (.aload_n 0, 1) := by decide +kernel
theorem dX1_reaches_1 : decode cX1_reaches 1 = .ok (.iload_n 1, 1) := by decide +kernel
theorem dX1_reaches_2 : decode cX1_reaches 2 = .ok (.iconst 0, 1) := by decide +kernel
theorem dX1_reaches_3 : decode cX1_reaches 3 = .ok (.invokestatic 52, 3) := by decide +kernel
theorem dX1_reaches_6 : decode cX1_reaches 6 = .ok (.lstore 6, 2) := by decide +kernel
theorem dX1_reaches_8 : decode cX1_reaches 8 = .ok (.iload_n 2, 1) := by decide +kernel
theorem dX1_reaches_9 : decode cX1_reaches 9 = .ok (.ifCond .ne 24, 3) := by decide +kernel
theorem dX1_reaches_12 : decode cX1_reaches 12 = .ok (.lload 6, 2) := by decide +kernel
theorem dX1_reaches_14 : decode cX1_reaches 14 = .ok (.ldc2_w 65, 3) := by decide +kernel
theorem dX1_reaches_17 : decode cX1_reaches 17 = .ok (.lmul, 1) := by decide +kernel
theorem dX1_reaches_18 : decode cX1_reaches 18 = .ok (.iload_n 3, 1) := by decide +kernel
theorem dX1_reaches_19 : decode cX1_reaches 19 = .ok (.i2l, 1) := by decide +kernel
theorem dX1_reaches_20 : decode cX1_reaches 20 = .ok (.lload 4, 2) := by decide +kernel
theorem dX1_reaches_22 : decode cX1_reaches 22 = .ok (.lmul, 1) := by decide +kernel
theorem dX1_reaches_23 : decode cX1_reaches 23 = .ok (.lcmp, 1) := by decide +kernel
theorem dX1_reaches_24 : decode cX1_reaches 24 = .ok (.ifCond .lt 7, 3) := by decide +kernel
theorem dX1_reaches_27 : decode cX1_reaches 27 = .ok (.iconst 1, 1) := by decide +kernel
theorem dX1_reaches_28 : decode cX1_reaches 28 = .ok (.goto 4, 3) := by decide +kernel
theorem dX1_reaches_31 : decode cX1_reaches 31 = .ok (.iconst 0, 1) := by decide +kernel
theorem dX1_reaches_32 : decode cX1_reaches 32 = .ok (.ireturn, 1) := by decide +kernel
theorem dX1_reaches_33 : decode cX1_reaches 33 = .ok (.iload_n 3, 1) := by decide +kernel
theorem dX1_reaches_34 : decode cX1_reaches 34 = .ok (.i2l, 1) := by decide +kernel
theorem dX1_reaches_35 : decode cX1_reaches 35 = .ok (.lload 4, 2) := by decide +kernel
theorem dX1_reaches_37 : decode cX1_reaches 37 = .ok (.lmul, 1) := by decide +kernel
theorem dX1_reaches_38 : decode cX1_reaches 38 = .ok (.lstore 8, 2) := by decide +kernel
theorem dX1_reaches_40 : decode cX1_reaches 40 = .ok (.iconst 1, 1) := by decide +kernel
theorem dX1_reaches_41 : decode cX1_reaches 41 = .ok (.istore 10, 2) := by decide +kernel
theorem dX1_reaches_43 : decode cX1_reaches 43 = .ok (.iload 10, 2) := by decide +kernel
theorem dX1_reaches_45 : decode cX1_reaches 45 = .ok (.iload_n 2, 1) := by decide +kernel
theorem dX1_reaches_46 : decode cX1_reaches 46 = .ok (.if_icmp .ge 17, 3) := by decide +kernel
theorem dX1_reaches_49 : decode cX1_reaches 49 = .ok (.lload 8, 2) := by decide +kernel
theorem dX1_reaches_51 : decode cX1_reaches 51 = .ok (.ldc2_w 65, 3) := by decide +kernel
theorem dX1_reaches_54 : decode cX1_reaches 54 = .ok (.lmul, 1) := by decide +kernel
theorem dX1_reaches_55 : decode cX1_reaches 55 = .ok (.lstore 8, 2) := by decide +kernel
theorem dX1_reaches_57 : decode cX1_reaches 57 = .ok (.iinc 10 1, 3) := by decide +kernel
theorem dX1_reaches_60 : decode cX1_reaches 60 = .ok (.goto (-17), 3) := by decide +kernel
theorem dX1_reaches_63 : decode cX1_reaches 63 = .ok (.lload 6, 2) := by decide +kernel
theorem dX1_reaches_65 : decode cX1_reaches 65 = .ok (.lload 8, 2) := by decide +kernel
theorem dX1_reaches_67 : decode cX1_reaches 67 = .ok (.lcmp, 1) := by decide +kernel
theorem dX1_reaches_68 : decode cX1_reaches 68 = .ok (.ifCond .lt 7, 3) := by decide +kernel
theorem dX1_reaches_71 : decode cX1_reaches 71 = .ok (.iconst 1, 1) := by decide +kernel
theorem dX1_reaches_72 : decode cX1_reaches 72 = .ok (.goto 4, 3) := by decide +kernel
theorem dX1_reaches_75 : decode cX1_reaches 75 = .ok (.iconst 0, 1) := by decide +kernel
theorem dX1_reaches_76 : decode cX1_reaches 76 = .ok (.ireturn, 1) := by decide +kernel
theorem dX1_worthBehind_0 : decode cX1_worthBehind 0 = .ok (.iload_n 1, 1) := by decide +kernel
theorem dX1_worthBehind_1 : decode cX1_worthBehind 1 = .ok (.ifCond .eq 9, 3) := by decide +kernel
theorem dX1_worthBehind_4 : decode cX1_worthBehind 4 = .ok (.iload_n 2, 1) := by decide +kernel
theorem dX1_worthBehind_5 : decode cX1_worthBehind 5 = .ok (.bipush 8, 2) := by decide +kernel
theorem dX1_worthBehind_7 : decode cX1_worthBehind 7 = .ok (.if_icmp .lt 9, 3) := by decide +kernel
theorem dX1_worthBehind_10 : decode cX1_worthBehind 10 = .ok (.aload_n 0, 1) := by decide +kernel
theorem dX1_worthBehind_11 : decode cX1_worthBehind 11 = .ok (.iload_n 2, 1) := by decide +kernel
theorem dX1_worthBehind_12 : decode cX1_worthBehind 12 = .ok (.invokevirtual 67, 3) := by decide +kernel
theorem dX1_worthBehind_15 : decode cX1_worthBehind 15 = .ok (.lreturn, 1) := by decide +kernel
theorem dX1_worthBehind_16 : decode cX1_worthBehind 16 = .ok (.iload_n 1, 1) := by decide +kernel
theorem dX1_worthBehind_17 : decode cX1_worthBehind 17 = .ok (.invokestatic 86, 3) := by decide +kernel
theorem dX1_worthBehind_20 : decode cX1_worthBehind 20 = .ok (.istore_n 3, 1) := by decide +kernel
theorem dX1_worthBehind_21 : decode cX1_worthBehind 21 = .ok (.iload_n 1, 1) := by decide +kernel
theorem dX1_worthBehind_22 : decode cX1_worthBehind 22 = .ok (.iload_n 1, 1) := by decide +kernel
theorem dX1_worthBehind_23 : decode cX1_worthBehind 23 = .ok (.iconst 1, 1) := by decide +kernel
theorem dX1_worthBehind_24 : decode cX1_worthBehind 24 = .ok (.isub, 1) := by decide +kernel
theorem dX1_worthBehind_25 : decode cX1_worthBehind 25 = .ok (.iand, 1) := by decide +kernel
theorem dX1_worthBehind_26 : decode cX1_worthBehind 26 = .ok (.istore 4, 2) := by decide +kernel
theorem dX1_worthBehind_28 : decode cX1_worthBehind 28 = .ok (.aload_n 0, 1) := by decide +kernel
theorem dX1_worthBehind_29 : decode cX1_worthBehind 29 = .ok (.iload_n 2, 1) := by decide +kernel
theorem dX1_worthBehind_30 : decode cX1_worthBehind 30 = .ok (.iload_n 3, 1) := by decide +kernel
theorem dX1_worthBehind_31 : decode cX1_worthBehind 31 = .ok (.iconst 1, 1) := by decide +kernel
theorem dX1_worthBehind_32 : decode cX1_worthBehind 32 = .ok (.invokevirtual 58, 3) := by decide +kernel
theorem dX1_worthBehind_35 : decode cX1_worthBehind 35 = .ok (.ifCond .eq 15, 3) := by decide +kernel
theorem dX1_worthBehind_38 : decode cX1_worthBehind 38 = .ok (.aload_n 0, 1) := by decide +kernel
theorem dX1_worthBehind_39 : decode cX1_worthBehind 39 = .ok (.iload 4, 2) := by decide +kernel
theorem dX1_worthBehind_41 : decode cX1_worthBehind 41 = .ok (.iload_n 2, 1) := by decide +kernel
theorem dX1_worthBehind_42 : decode cX1_worthBehind 42 = .ok (.iconst 1, 1) := by decide +kernel
theorem dX1_worthBehind_43 : decode cX1_worthBehind 43 = .ok (.iadd, 1) := by decide +kernel
theorem dX1_worthBehind_44 : decode cX1_worthBehind 44 = .ok (.invokestatic 52, 3) := by decide +kernel
theorem dX1_worthBehind_47 : decode cX1_worthBehind 47 = .ok (.goto 4, 3) := by decide +kernel
theorem dX1_worthBehind_50 : decode cX1_worthBehind 50 = .ok (.lconst 0, 1) := by decide +kernel
theorem dX1_worthBehind_51 : decode cX1_worthBehind 51 = .ok (.lstore 5, 2) := by decide +kernel
theorem dX1_worthBehind_53 : decode cX1_worthBehind 53 = .ok (.aload_n 0, 1) := by decide +kernel
theorem dX1_worthBehind_54 : decode cX1_worthBehind 54 = .ok (.iload_n 2, 1) := by decide +kernel
theorem dX1_worthBehind_55 : decode cX1_worthBehind 55 = .ok (.iload_n 3, 1) := by decide +kernel
theorem dX1_worthBehind_56 : decode cX1_worthBehind 56 = .ok (.iconst 0, 1) := by decide +kernel
theorem dX1_worthBehind_57 : decode cX1_worthBehind 57 = .ok (.invokevirtual 58, 3) := by decide +kernel
theorem dX1_worthBehind_60 : decode cX1_worthBehind 60 = .ok (.ifCond .eq 18, 3) := by decide +kernel
theorem dX1_worthBehind_63 : decode cX1_worthBehind 63 = .ok (.lload 5, 2) := by decide +kernel
theorem dX1_worthBehind_65 : decode cX1_worthBehind 65 = .ok (.aload_n 0, 1) := by decide +kernel
theorem dX1_worthBehind_66 : decode cX1_worthBehind 66 = .ok (.iload 4, 2) := by decide +kernel
theorem dX1_worthBehind_68 : decode cX1_worthBehind 68 = .ok (.iload_n 2, 1) := by decide +kernel
theorem dX1_worthBehind_69 : decode cX1_worthBehind 69 = .ok (.iconst 1, 1) := by decide +kernel
theorem dX1_worthBehind_70 : decode cX1_worthBehind 70 = .ok (.iadd, 1) := by decide +kernel
theorem dX1_worthBehind_71 : decode cX1_worthBehind 71 = .ok (.invokestatic 52, 3) := by decide +kernel
theorem dX1_worthBehind_74 : decode cX1_worthBehind 74 = .ok (.ladd, 1) := by decide +kernel
theorem dX1_worthBehind_75 : decode cX1_worthBehind 75 = .ok (.goto 5, 3) := by decide +kernel
theorem dX1_worthBehind_78 : decode cX1_worthBehind 78 = .ok (.lload 5, 2) := by decide +kernel
theorem dX1_worthBehind_80 : decode cX1_worthBehind 80 = .ok (.lreturn, 1) := by decide +kernel
theorem dX1_lowestOf_0 : decode cX1_lowestOf 0 = .ok (.iconst 0, 1) := by decide +kernel
theorem dX1_lowestOf_1 : decode cX1_lowestOf 1 = .ok (.istore_n 1, 1) := by decide +kernel
theorem dX1_lowestOf_2 : decode cX1_lowestOf 2 = .ok (.iload_n 1, 1) := by decide +kernel
theorem dX1_lowestOf_3 : decode cX1_lowestOf 3 = .ok (.bipush 7, 2) := by decide +kernel
theorem dX1_lowestOf_5 : decode cX1_lowestOf 5 = .ok (.if_icmp .ge 17, 3) := by decide +kernel
theorem dX1_lowestOf_8 : decode cX1_lowestOf 8 = .ok (.iload_n 0, 1) := by decide +kernel
theorem dX1_lowestOf_9 : decode cX1_lowestOf 9 = .ok (.iload_n 1, 1) := by decide +kernel
theorem dX1_lowestOf_10 : decode cX1_lowestOf 10 = .ok (.ishr, 1) := by decide +kernel
theorem dX1_lowestOf_11 : decode cX1_lowestOf 11 = .ok (.iconst 1, 1) := by decide +kernel
theorem dX1_lowestOf_12 : decode cX1_lowestOf 12 = .ok (.iand, 1) := by decide +kernel
theorem dX1_lowestOf_13 : decode cX1_lowestOf 13 = .ok (.ifCond .ne 9, 3) := by decide +kernel
theorem dX1_lowestOf_16 : decode cX1_lowestOf 16 = .ok (.iinc 1 1, 3) := by decide +kernel
theorem dX1_lowestOf_19 : decode cX1_lowestOf 19 = .ok (.goto (-17), 3) := by decide +kernel
theorem dX1_lowestOf_22 : decode cX1_lowestOf 22 = .ok (.iload_n 1, 1) := by decide +kernel
theorem dX1_lowestOf_23 : decode cX1_lowestOf 23 = .ok (.ireturn, 1) := by decide +kernel
theorem dX1_weigh_0 : decode cX1_weigh 0 = .ok (.iload_n 1, 1) := by decide +kernel
theorem dX1_weigh_1 : decode cX1_weigh 1 = .ok (.ifCond .lt 19, 3) := by decide +kernel
theorem dX1_weigh_4 : decode cX1_weigh 4 = .ok (.iload_n 1, 1) := by decide +kernel
theorem dX1_weigh_5 : decode cX1_weigh 5 = .ok (.bipush 8, 2) := by decide +kernel
theorem dX1_weigh_7 : decode cX1_weigh 7 = .ok (.if_icmp .ge 13, 3) := by decide +kernel
theorem dX1_weigh_10 : decode cX1_weigh 10 = .ok (.iload_n 2, 1) := by decide +kernel
theorem dX1_weigh_11 : decode cX1_weigh 11 = .ok (.ifCond .lt 9, 3) := by decide +kernel
theorem dX1_weigh_14 : decode cX1_weigh 14 = .ok (.iload_n 2, 1) := by decide +kernel
theorem dX1_weigh_15 : decode cX1_weigh 15 = .ok (.bipush 8, 2) := by decide +kernel
theorem dX1_weigh_17 : decode cX1_weigh 17 = .ok (.if_icmp .lt 5, 3) := by decide +kernel
theorem dX1_weigh_20 : decode cX1_weigh 20 = .ok (.iconst 0, 1) := by decide +kernel
theorem dX1_weigh_21 : decode cX1_weigh 21 = .ok (.ireturn, 1) := by decide +kernel
theorem dX1_weigh_22 : decode cX1_weigh 22 = .ok (.aload_n 0, 1) := by decide +kernel
theorem dX1_weigh_23 : decode cX1_weigh 23 = .ok (.getfield 18, 3) := by decide +kernel
theorem dX1_weigh_26 : decode cX1_weigh 26 = .ok (.iload_n 1, 1) := by decide +kernel
theorem dX1_weigh_27 : decode cX1_weigh 27 = .ok (.aaload, 1) := by decide +kernel
theorem dX1_weigh_28 : decode cX1_weigh 28 = .ok (.astore 4, 2) := by decide +kernel
theorem dX1_weigh_30 : decode cX1_weigh 30 = .ok (.aload_n 0, 1) := by decide +kernel
theorem dX1_weigh_31 : decode cX1_weigh 31 = .ok (.getfield 18, 3) := by decide +kernel
theorem dX1_weigh_34 : decode cX1_weigh 34 = .ok (.iload_n 1, 1) := by decide +kernel
theorem dX1_weigh_35 : decode cX1_weigh 35 = .ok (.iconst 1, 1) := by decide +kernel
theorem dX1_weigh_36 : decode cX1_weigh 36 = .ok (.iadd, 1) := by decide +kernel
theorem dX1_weigh_37 : decode cX1_weigh 37 = .ok (.aaload, 1) := by decide +kernel
theorem dX1_weigh_38 : decode cX1_weigh 38 = .ok (.astore 5, 2) := by decide +kernel
theorem dX1_weigh_40 : decode cX1_weigh 40 = .ok (.aload_n 0, 1) := by decide +kernel
theorem dX1_weigh_41 : decode cX1_weigh 41 = .ok (.getfield 11, 3) := by decide +kernel
theorem dX1_weigh_44 : decode cX1_weigh 44 = .ok (.iload_n 2, 1) := by decide +kernel
theorem dX1_weigh_45 : decode cX1_weigh 45 = .ok (.aaload, 1) := by decide +kernel
theorem dX1_weigh_46 : decode cX1_weigh 46 = .ok (.astore 6, 2) := by decide +kernel
theorem dX1_weigh_48 : decode cX1_weigh 48 = .ok (.lconst 0, 1) := by decide +kernel
theorem dX1_weigh_49 : decode cX1_weigh 49 = .ok (.lstore 7, 2) := by decide +kernel
theorem dX1_weigh_51 : decode cX1_weigh 51 = .ok (.iconst 0, 1) := by decide +kernel
theorem dX1_weigh_52 : decode cX1_weigh 52 = .ok (.istore 9, 2) := by decide +kernel
theorem dX1_weigh_54 : decode cX1_weigh 54 = .ok (.iload 9, 2) := by decide +kernel
theorem dX1_weigh_56 : decode cX1_weigh 56 = .ok (.aload_n 0, 1) := by decide +kernel
theorem dX1_weigh_57 : decode cX1_weigh 57 = .ok (.getfield 25, 3) := by decide +kernel
theorem dX1_weigh_60 : decode cX1_weigh 60 = .ok (.if_icmp .ge 58, 3) := by decide +kernel
theorem dX1_weigh_63 : decode cX1_weigh 63 = .ok (.iload 9, 2) := by decide +kernel
theorem dX1_weigh_65 : decode cX1_weigh 65 = .ok (.bipush 24, 2) := by decide +kernel
theorem dX1_weigh_67 : decode cX1_weigh 67 = .ok (.if_icmp .ge 51, 3) := by decide +kernel
theorem dX1_weigh_70 : decode cX1_weigh 70 = .ok (.aload 5, 2) := by decide +kernel
theorem dX1_weigh_72 : decode cX1_weigh 72 = .ok (.iload 9, 2) := by decide +kernel
theorem dX1_weigh_74 : decode cX1_weigh 74 = .ok (.aload 4, 2) := by decide +kernel
theorem dX1_weigh_76 : decode cX1_weigh 76 = .ok (.iload 9, 2) := by decide +kernel
theorem dX1_weigh_78 : decode cX1_weigh 78 = .ok (.laload, 1) := by decide +kernel
theorem dX1_weigh_79 : decode cX1_weigh 79 = .ok (.iload_n 3, 1) := by decide +kernel
theorem dX1_weigh_80 : decode cX1_weigh 80 = .ok (.ifCond .eq 11, 3) := by decide +kernel
theorem dX1_weigh_83 : decode cX1_weigh 83 = .ok (.aload 6, 2) := by decide +kernel
theorem dX1_weigh_85 : decode cX1_weigh 85 = .ok (.iload 9, 2) := by decide +kernel
theorem dX1_weigh_87 : decode cX1_weigh 87 = .ok (.iaload, 1) := by decide +kernel
theorem dX1_weigh_88 : decode cX1_weigh 88 = .ok (.goto 11, 3) := by decide +kernel
theorem dX1_weigh_91 : decode cX1_weigh 91 = .ok (.bipush 10, 2) := by decide +kernel
theorem dX1_weigh_93 : decode cX1_weigh 93 = .ok (.aload 6, 2) := by decide +kernel
theorem dX1_weigh_95 : decode cX1_weigh 95 = .ok (.iload 9, 2) := by decide +kernel
theorem dX1_weigh_97 : decode cX1_weigh 97 = .ok (.iaload, 1) := by decide +kernel
theorem dX1_weigh_98 : decode cX1_weigh 98 = .ok (.isub, 1) := by decide +kernel
theorem dX1_weigh_99 : decode cX1_weigh 99 = .ok (.i2l, 1) := by decide +kernel
theorem dX1_weigh_100 : decode cX1_weigh 100 = .ok (.lmul, 1) := by decide +kernel
theorem dX1_weigh_101 : decode cX1_weigh 101 = .ok (.lastore, 1) := by decide +kernel
theorem dX1_weigh_102 : decode cX1_weigh 102 = .ok (.lload 7, 2) := by decide +kernel
theorem dX1_weigh_104 : decode cX1_weigh 104 = .ok (.aload 5, 2) := by decide +kernel
theorem dX1_weigh_106 : decode cX1_weigh 106 = .ok (.iload 9, 2) := by decide +kernel
theorem dX1_weigh_108 : decode cX1_weigh 108 = .ok (.laload, 1) := by decide +kernel
theorem dX1_weigh_109 : decode cX1_weigh 109 = .ok (.lor, 1) := by decide +kernel
theorem dX1_weigh_110 : decode cX1_weigh 110 = .ok (.lstore 7, 2) := by decide +kernel
theorem dX1_weigh_112 : decode cX1_weigh 112 = .ok (.iinc 9 1, 3) := by decide +kernel
theorem dX1_weigh_115 : decode cX1_weigh 115 = .ok (.goto (-61), 3) := by decide +kernel
theorem dX1_weigh_118 : decode cX1_weigh 118 = .ok (.lload 7, 2) := by decide +kernel
theorem dX1_weigh_120 : decode cX1_weigh 120 = .ok (.lconst 0, 1) := by decide +kernel
theorem dX1_weigh_121 : decode cX1_weigh 121 = .ok (.lcmp, 1) := by decide +kernel
theorem dX1_weigh_122 : decode cX1_weigh 122 = .ok (.ifCond .eq 7, 3) := by decide +kernel
theorem dX1_weigh_125 : decode cX1_weigh 125 = .ok (.iconst 1, 1) := by decide +kernel
theorem dX1_weigh_126 : decode cX1_weigh 126 = .ok (.goto 4, 3) := by decide +kernel
theorem dX1_weigh_129 : decode cX1_weigh 129 = .ok (.iconst 0, 1) := by decide +kernel
theorem dX1_weigh_130 : decode cX1_weigh 130 = .ok (.ireturn, 1) := by decide +kernel
theorem dX1_greatest_0 : decode cX1_greatest 0 = .ok (.iload_n 1, 1) := by decide +kernel
theorem dX1_greatest_1 : decode cX1_greatest 1 = .ok (.ifCond .lt 9, 3) := by decide +kernel
theorem dX1_greatest_4 : decode cX1_greatest 4 = .ok (.iload_n 1, 1) := by decide +kernel
theorem dX1_greatest_5 : decode cX1_greatest 5 = .ok (.bipush 8, 2) := by decide +kernel
theorem dX1_greatest_7 : decode cX1_greatest 7 = .ok (.if_icmp .le 5, 3) := by decide +kernel
theorem dX1_greatest_10 : decode cX1_greatest 10 = .ok (.lconst 0, 1) := by decide +kernel
theorem dX1_greatest_11 : decode cX1_greatest 11 = .ok (.lreturn, 1) := by decide +kernel
theorem dX1_greatest_12 : decode cX1_greatest 12 = .ok (.aload_n 0, 1) := by decide +kernel
theorem dX1_greatest_13 : decode cX1_greatest 13 = .ok (.getfield 18, 3) := by decide +kernel
theorem dX1_greatest_16 : decode cX1_greatest 16 = .ok (.iload_n 1, 1) := by decide +kernel
theorem dX1_greatest_17 : decode cX1_greatest 17 = .ok (.aaload, 1) := by decide +kernel
theorem dX1_greatest_18 : decode cX1_greatest 18 = .ok (.astore_n 2, 1) := by decide +kernel
theorem dX1_greatest_19 : decode cX1_greatest 19 = .ok (.lconst 0, 1) := by decide +kernel
theorem dX1_greatest_20 : decode cX1_greatest 20 = .ok (.lstore_n 3, 1) := by decide +kernel
theorem dX1_greatest_21 : decode cX1_greatest 21 = .ok (.iconst 0, 1) := by decide +kernel
theorem dX1_greatest_22 : decode cX1_greatest 22 = .ok (.istore 5, 2) := by decide +kernel
theorem dX1_greatest_24 : decode cX1_greatest 24 = .ok (.iload 5, 2) := by decide +kernel
theorem dX1_greatest_26 : decode cX1_greatest 26 = .ok (.aload_n 0, 1) := by decide +kernel
theorem dX1_greatest_27 : decode cX1_greatest 27 = .ok (.getfield 25, 3) := by decide +kernel
theorem dX1_greatest_30 : decode cX1_greatest 30 = .ok (.if_icmp .ge 30, 3) := by decide +kernel
theorem dX1_greatest_33 : decode cX1_greatest 33 = .ok (.iload 5, 2) := by decide +kernel
theorem dX1_greatest_35 : decode cX1_greatest 35 = .ok (.bipush 24, 2) := by decide +kernel
theorem dX1_greatest_37 : decode cX1_greatest 37 = .ok (.if_icmp .ge 23, 3) := by decide +kernel
theorem dX1_greatest_40 : decode cX1_greatest 40 = .ok (.aload_n 2, 1) := by decide +kernel
theorem dX1_greatest_41 : decode cX1_greatest 41 = .ok (.iload 5, 2) := by decide +kernel
theorem dX1_greatest_43 : decode cX1_greatest 43 = .ok (.laload, 1) := by decide +kernel
theorem dX1_greatest_44 : decode cX1_greatest 44 = .ok (.lload_n 3, 1) := by decide +kernel
theorem dX1_greatest_45 : decode cX1_greatest 45 = .ok (.lcmp, 1) := by decide +kernel
theorem dX1_greatest_46 : decode cX1_greatest 46 = .ok (.ifCond .le 8, 3) := by decide +kernel
theorem dX1_greatest_49 : decode cX1_greatest 49 = .ok (.aload_n 2, 1) := by decide +kernel
theorem dX1_greatest_50 : decode cX1_greatest 50 = .ok (.iload 5, 2) := by decide +kernel
theorem dX1_greatest_52 : decode cX1_greatest 52 = .ok (.laload, 1) := by decide +kernel
theorem dX1_greatest_53 : decode cX1_greatest 53 = .ok (.lstore_n 3, 1) := by decide +kernel
theorem dX1_greatest_54 : decode cX1_greatest 54 = .ok (.iinc 5 1, 3) := by decide +kernel
theorem dX1_greatest_57 : decode cX1_greatest 57 = .ok (.goto (-33), 3) := by decide +kernel
theorem dX1_greatest_60 : decode cX1_greatest 60 = .ok (.lload_n 3, 1) := by decide +kernel
theorem dX1_greatest_61 : decode cX1_greatest 61 = .ok (.lreturn, 1) := by decide +kernel
theorem dX2_init_0 : decode cX2_init 0 = .ok (.aload_n 0, 1) := by decide +kernel
theorem dX2_init_1 : decode cX2_init 1 = .ok (.invokespecial 3, 3) := by decide +kernel
theorem dX2_init_4 : decode cX2_init 4 = .ok (.aload_n 0, 1) := by decide +kernel
theorem dX2_init_5 : decode cX2_init 5 = .ok (.iconst 0, 1) := by decide +kernel
theorem dX2_init_6 : decode cX2_init 6 = .ok (.putfield 9, 3) := by decide +kernel
theorem dX2_init_9 : decode cX2_init 9 = .ok (.aload_n 0, 1) := by decide +kernel
theorem dX2_init_10 : decode cX2_init 10 = .ok (.iconst (-1), 1) := by decide +kernel
theorem dX2_init_11 : decode cX2_init 11 = .ok (.putfield 15, 3) := by decide +kernel
theorem dX2_init_14 : decode cX2_init 14 = .ok (.aload_n 0, 1) := by decide +kernel
theorem dX2_init_15 : decode cX2_init 15 = .ok (.iconst 0, 1) := by decide +kernel
theorem dX2_init_16 : decode cX2_init 16 = .ok (.putfield 18, 3) := by decide +kernel
theorem dX2_init_19 : decode cX2_init 19 = .ok (.aload_n 0, 1) := by decide +kernel
theorem dX2_init_20 : decode cX2_init 20 = .ok (.aload_n 1, 1) := by decide +kernel
theorem dX2_init_21 : decode cX2_init 21 = .ok (.putfield 22, 3) := by decide +kernel
theorem dX2_init_24 : decode cX2_init 24 = .ok (.aload_n 0, 1) := by decide +kernel
theorem dX2_init_25 : decode cX2_init 25 = .ok (.aload_n 2, 1) := by decide +kernel
theorem dX2_init_26 : decode cX2_init 26 = .ok (.putfield 26, 3) := by decide +kernel
theorem dX2_init_29 : decode cX2_init 29 = .ok (.return_, 1) := by decide +kernel
theorem dX2_readItems_0 : decode cX2_readItems 0 = .ok (.iconst 0, 1) := by decide +kernel
theorem dX2_readItems_1 : decode cX2_readItems 1 = .ok (.istore_n 1, 1) := by decide +kernel
theorem dX2_readItems_2 : decode cX2_readItems 2 = .ok (.iconst 0, 1) := by decide +kernel
theorem dX2_readItems_3 : decode cX2_readItems 3 = .ok (.istore_n 2, 1) := by decide +kernel
theorem dX2_readItems_4 : decode cX2_readItems 4 = .ok (.iload_n 2, 1) := by decide +kernel
theorem dX2_readItems_5 : decode cX2_readItems 5 = .ok (.sipush 160, 3) := by decide +kernel
theorem dX2_readItems_8 : decode cX2_readItems 8 = .ok (.if_icmp .gt 54, 3) := by decide +kernel
theorem dX2_readItems_11 : decode cX2_readItems 11 = .ok (.aload_n 0, 1) := by decide +kernel
theorem dX2_readItems_12 : decode cX2_readItems 12 = .ok (.getfield 15, 3) := by decide +kernel
theorem dX2_readItems_15 : decode cX2_readItems 15 = .ok (.iconst (-1), 1) := by decide +kernel
theorem dX2_readItems_16 : decode cX2_readItems 16 = .ok (.if_icmp .ne 46, 3) := by decide +kernel
theorem dX2_readItems_19 : decode cX2_readItems 19 = .ok (.aload_n 0, 1) := by decide +kernel
theorem dX2_readItems_20 : decode cX2_readItems 20 = .ok (.invokevirtual 30, 3) := by decide +kernel
theorem dX2_readItems_23 : decode cX2_readItems 23 = .ok (.aload_n 0, 1) := by decide +kernel
theorem dX2_readItems_24 : decode cX2_readItems 24 = .ok (.getfield 15, 3) := by decide +kernel
theorem dX2_readItems_27 : decode cX2_readItems 27 = .ok (.iconst (-1), 1) := by decide +kernel
theorem dX2_readItems_28 : decode cX2_readItems 28 = .ok (.if_icmp .ne 28, 3) := by decide +kernel
theorem dX2_readItems_31 : decode cX2_readItems 31 = .ok (.iinc 1 1, 3) := by decide +kernel
theorem dX2_readItems_34 : decode cX2_readItems 34 = .ok (.aload_n 0, 1) := by decide +kernel
theorem dX2_readItems_35 : decode cX2_readItems 35 = .ok (.getfield 9, 3) := by decide +kernel
theorem dX2_readItems_38 : decode cX2_readItems 38 = .ok (.aload_n 0, 1) := by decide +kernel
theorem dX2_readItems_39 : decode cX2_readItems 39 = .ok (.getfield 22, 3) := by decide +kernel
theorem dX2_readItems_42 : decode cX2_readItems 42 = .ok (.getfield 33, 3) := by decide +kernel
theorem dX2_readItems_45 : decode cX2_readItems 45 = .ok (.if_icmp .lt 5, 3) := by decide +kernel
theorem dX2_readItems_48 : decode cX2_readItems 48 = .ok (.iload_n 1, 1) := by decide +kernel
theorem dX2_readItems_49 : decode cX2_readItems 49 = .ok (.ireturn, 1) := by decide +kernel
theorem dX2_readItems_50 : decode cX2_readItems 50 = .ok (.aload_n 0, 1) := by decide +kernel
theorem dX2_readItems_51 : decode cX2_readItems 51 = .ok (.bipush 59, 2) := by decide +kernel
theorem dX2_readItems_53 : decode cX2_readItems 53 = .ok (.invokevirtual 38, 3) := by decide +kernel
theorem dX2_readItems_56 : decode cX2_readItems 56 = .ok (.iinc 2 1, 3) := by decide +kernel
theorem dX2_readItems_59 : decode cX2_readItems 59 = .ok (.goto (-55), 3) := by decide +kernel
theorem dX2_readItems_62 : decode cX2_readItems 62 = .ok (.iload_n 1, 1) := by decide +kernel
theorem dX2_readItems_63 : decode cX2_readItems 63 = .ok (.ireturn, 1) := by decide +kernel
theorem dX2_letter_0 : decode cX2_letter 0 = .ok (.aload_n 0, 1) := by decide +kernel
theorem dX2_letter_1 : decode cX2_letter 1 = .ok (.getfield 9, 3) := by decide +kernel
theorem dX2_letter_4 : decode cX2_letter 4 = .ok (.aload_n 0, 1) := by decide +kernel
theorem dX2_letter_5 : decode cX2_letter 5 = .ok (.getfield 22, 3) := by decide +kernel
theorem dX2_letter_8 : decode cX2_letter 8 = .ok (.getfield 33, 3) := by decide +kernel
theorem dX2_letter_11 : decode cX2_letter 11 = .ok (.if_icmp .ge 29, 3) := by decide +kernel
theorem dX2_letter_14 : decode cX2_letter 14 = .ok (.aload_n 0, 1) := by decide +kernel
theorem dX2_letter_15 : decode cX2_letter 15 = .ok (.getfield 9, 3) := by decide +kernel
theorem dX2_letter_18 : decode cX2_letter 18 = .ok (.sipush 160, 3) := by decide +kernel
theorem dX2_letter_21 : decode cX2_letter 21 = .ok (.if_icmp .ge 19, 3) := by decide +kernel
theorem dX2_letter_24 : decode cX2_letter 24 = .ok (.aload_n 0, 1) := by decide +kernel
theorem dX2_letter_25 : decode cX2_letter 25 = .ok (.getfield 22, 3) := by decide +kernel
theorem dX2_letter_28 : decode cX2_letter 28 = .ok (.getfield 42, 3) := by decide +kernel
theorem dX2_letter_31 : decode cX2_letter 31 = .ok (.aload_n 0, 1) := by decide +kernel
theorem dX2_letter_32 : decode cX2_letter 32 = .ok (.getfield 9, 3) := by decide +kernel
theorem dX2_letter_35 : decode cX2_letter 35 = .ok (.laload, 1) := by decide +kernel
theorem dX2_letter_36 : decode cX2_letter 36 = .ok (.l2i, 1) := by decide +kernel
theorem dX2_letter_37 : decode cX2_letter 37 = .ok (.goto 4, 3) := by decide +kernel
theorem dX2_letter_40 : decode cX2_letter 40 = .ok (.iconst (-1), 1) := by decide +kernel
theorem dX2_letter_41 : decode cX2_letter 41 = .ok (.ireturn, 1) := by decide +kernel
theorem dX2_pass_0 : decode cX2_pass 0 = .ok (.aload_n 0, 1) := by decide +kernel
theorem dX2_pass_1 : decode cX2_pass 1 = .ok (.invokevirtual 46, 3) := by decide +kernel
theorem dX2_pass_4 : decode cX2_pass 4 = .ok (.iload_n 1, 1) := by decide +kernel
theorem dX2_pass_5 : decode cX2_pass 5 = .ok (.if_icmp .ne 16, 3) := by decide +kernel
theorem dX2_pass_8 : decode cX2_pass 8 = .ok (.aload_n 0, 1) := by decide +kernel
theorem dX2_pass_9 : decode cX2_pass 9 = .ok (.dup, 1) := by decide +kernel
theorem dX2_pass_10 : decode cX2_pass 10 = .ok (.getfield 9, 3) := by decide +kernel
theorem dX2_pass_13 : decode cX2_pass 13 = .ok (.iconst 1, 1) := by decide +kernel
theorem dX2_pass_14 : decode cX2_pass 14 = .ok (.iadd, 1) := by decide +kernel
theorem dX2_pass_15 : decode cX2_pass 15 = .ok (.putfield 9, 3) := by decide +kernel
theorem dX2_pass_18 : decode cX2_pass 18 = .ok (.goto 11, 3) := by decide +kernel
theorem dX2_pass_21 : decode cX2_pass 21 = .ok (.aload_n 0, 1) := by decide +kernel
theorem dX2_pass_22 : decode cX2_pass 22 = .ok (.aload_n 0, 1) := by decide +kernel
theorem dX2_pass_23 : decode cX2_pass 23 = .ok (.getfield 9, 3) := by decide +kernel
theorem dX2_pass_26 : decode cX2_pass 26 = .ok (.putfield 15, 3) := by decide +kernel
theorem dX2_pass_29 : decode cX2_pass 29 = .ok (.return_, 1) := by decide +kernel
theorem dX2_readItem_0 : decode cX2_readItem 0 = .ok (.aload_n 0, 1) := by decide +kernel
theorem dX2_readItem_1 : decode cX2_readItem 1 = .ok (.getfield 9, 3) := by decide +kernel
theorem dX2_readItem_4 : decode cX2_readItem 4 = .ok (.istore_n 1, 1) := by decide +kernel
theorem dX2_readItem_5 : decode cX2_readItem 5 = .ok (.aload_n 0, 1) := by decide +kernel
theorem dX2_readItem_6 : decode cX2_readItem 6 = .ok (.invokevirtual 46, 3) := by decide +kernel
theorem dX2_readItem_9 : decode cX2_readItem 9 = .ok (.istore_n 2, 1) := by decide +kernel
theorem dX2_readItem_10 : decode cX2_readItem 10 = .ok (.aload_n 0, 1) := by decide +kernel
theorem dX2_readItem_11 : decode cX2_readItem 11 = .ok (.iload_n 2, 1) := by decide +kernel
theorem dX2_readItem_12 : decode cX2_readItem 12 = .ok (.invokestatic 50, 3) := by decide +kernel
theorem dX2_readItem_15 : decode cX2_readItem 15 = .ok (.invokevirtual 54, 3) := by decide +kernel
theorem dX2_readItem_18 : decode cX2_readItem 18 = .ok (.aload_n 0, 1) := by decide +kernel
theorem dX2_readItem_19 : decode cX2_readItem 19 = .ok (.getfield 15, 3) := by decide +kernel
theorem dX2_readItem_22 : decode cX2_readItem 22 = .ok (.iconst (-1), 1) := by decide +kernel
theorem dX2_readItem_23 : decode cX2_readItem 23 = .ok (.if_icmp .eq 4, 3) := by decide +kernel
theorem dX2_readItem_26 : decode cX2_readItem 26 = .ok (.return_, 1) := by decide +kernel
theorem dX2_readItem_27 : decode cX2_readItem 27 = .ok (.iload_n 2, 1) := by decide +kernel
theorem dX2_readItem_28 : decode cX2_readItem 28 = .ok (.lookupswitch 99 #[(97, 82), (108, 52), (115, 59), (116, 67), (119, 75)], 52) := by decide +kernel
theorem dX2_readItem_80 : decode cX2_readItem 80 = .ok (.aload_n 0, 1) := by decide +kernel
theorem dX2_readItem_81 : decode cX2_readItem 81 = .ok (.invokevirtual 58, 3) := by decide +kernel
theorem dX2_readItem_84 : decode cX2_readItem 84 = .ok (.goto 57, 3) := by decide +kernel
theorem dX2_readItem_87 : decode cX2_readItem 87 = .ok (.aload_n 0, 1) := by decide +kernel
theorem dX2_readItem_88 : decode cX2_readItem 88 = .ok (.iload_n 1, 1) := by decide +kernel
theorem dX2_readItem_89 : decode cX2_readItem 89 = .ok (.invokevirtual 61, 3) := by decide +kernel
theorem dX2_readItem_92 : decode cX2_readItem 92 = .ok (.goto 49, 3) := by decide +kernel
theorem dX2_readItem_95 : decode cX2_readItem 95 = .ok (.aload_n 0, 1) := by decide +kernel
theorem dX2_readItem_96 : decode cX2_readItem 96 = .ok (.iload_n 1, 1) := by decide +kernel
theorem dX2_readItem_97 : decode cX2_readItem 97 = .ok (.invokevirtual 64, 3) := by decide +kernel
theorem dX2_readItem_100 : decode cX2_readItem 100 = .ok (.goto 41, 3) := by decide +kernel
theorem dX2_readItem_103 : decode cX2_readItem 103 = .ok (.aload_n 0, 1) := by decide +kernel
theorem dX2_readItem_104 : decode cX2_readItem 104 = .ok (.invokevirtual 67, 3) := by decide +kernel
theorem dX2_readItem_107 : decode cX2_readItem 107 = .ok (.goto 34, 3) := by decide +kernel
theorem dX2_readItem_110 : decode cX2_readItem 110 = .ok (.aload_n 0, 1) := by decide +kernel
theorem dX2_readItem_111 : decode cX2_readItem 111 = .ok (.getfield 26, 3) := by decide +kernel
theorem dX2_readItem_114 : decode cX2_readItem 114 = .ok (.aload_n 0, 1) := by decide +kernel
theorem dX2_readItem_115 : decode cX2_readItem 115 = .ok (.iconst 1, 1) := by decide +kernel
theorem dX2_readItem_116 : decode cX2_readItem 116 = .ok (.bipush 9, 2) := by decide +kernel
theorem dX2_readItem_118 : decode cX2_readItem 118 = .ok (.invokevirtual 70, 3) := by decide +kernel
theorem dX2_readItem_121 : decode cX2_readItem 121 = .ok (.putfield 74, 3) := by decide +kernel
theorem dX2_readItem_124 : decode cX2_readItem 124 = .ok (.goto 17, 3) := by decide +kernel
theorem dX2_readItem_127 : decode cX2_readItem 127 = .ok (.aload_n 0, 1) := by decide +kernel
theorem dX2_readItem_128 : decode cX2_readItem 128 = .ok (.getfield 26, 3) := by decide +kernel
theorem dX2_readItem_131 : decode cX2_readItem 131 = .ok (.aload_n 0, 1) := by decide +kernel
theorem dX2_readItem_132 : decode cX2_readItem 132 = .ok (.iconst 0, 1) := by decide +kernel
theorem dX2_readItem_133 : decode cX2_readItem 133 = .ok (.bipush 7, 2) := by decide +kernel
theorem dX2_readItem_135 : decode cX2_readItem 135 = .ok (.invokevirtual 70, 3) := by decide +kernel
theorem dX2_readItem_138 : decode cX2_readItem 138 = .ok (.putfield 79, 3) := by decide +kernel
theorem dX2_readItem_141 : decode cX2_readItem 141 = .ok (.return_, 1) := by decide +kernel
theorem dX2_wordWith_0 : decode cX2_wordWith 0 = .ok (.iload_n 0, 1) := by decide +kernel
theorem dX2_wordWith_1 : decode cX2_wordWith 1 = .ok (.lookupswitch 77 #[(97, 71), (104, 74), (108, 59), (115, 62), (116, 65), (119, 68)], 59) := by decide +kernel
theorem dX2_wordWith_60 : decode cX2_wordWith 60 = .ok (.ldc 82, 2) := by decide +kernel
theorem dX2_wordWith_62 : decode cX2_wordWith 62 = .ok (.areturn, 1) := by decide +kernel
theorem dX2_wordWith_63 : decode cX2_wordWith 63 = .ok (.ldc 84, 2) := by decide +kernel
theorem dX2_wordWith_65 : decode cX2_wordWith 65 = .ok (.areturn, 1) := by decide +kernel
theorem dX2_wordWith_66 : decode cX2_wordWith 66 = .ok (.ldc 86, 2) := by decide +kernel
theorem dX2_wordWith_68 : decode cX2_wordWith 68 = .ok (.areturn, 1) := by decide +kernel
theorem dX2_wordWith_69 : decode cX2_wordWith 69 = .ok (.ldc 88, 2) := by decide +kernel
theorem dX2_wordWith_71 : decode cX2_wordWith 71 = .ok (.areturn, 1) := by decide +kernel
theorem dX2_wordWith_72 : decode cX2_wordWith 72 = .ok (.ldc 90, 2) := by decide +kernel
theorem dX2_wordWith_74 : decode cX2_wordWith 74 = .ok (.areturn, 1) := by decide +kernel
theorem dX2_wordWith_75 : decode cX2_wordWith 75 = .ok (.ldc 91, 2) := by decide +kernel
theorem dX2_wordWith_77 : decode cX2_wordWith 77 = .ok (.areturn, 1) := by decide +kernel
theorem dX2_wordWith_78 : decode cX2_wordWith 78 = .ok (.ldc 92, 2) := by decide +kernel
theorem dX2_wordWith_80 : decode cX2_wordWith 80 = .ok (.areturn, 1) := by decide +kernel
theorem dX2_readWord_0 : decode cX2_readWord 0 = .ok (.aload_n 1, 1) := by decide +kernel
theorem dX2_readWord_1 : decode cX2_readWord 1 = .ok (.invokevirtual 94, 3) := by decide +kernel
theorem dX2_readWord_4 : decode cX2_readWord 4 = .ok (.ifCond .eq 11, 3) := by decide +kernel
theorem dX2_readWord_7 : decode cX2_readWord 7 = .ok (.aload_n 0, 1) := by decide +kernel
theorem dX2_readWord_8 : decode cX2_readWord 8 = .ok (.aload_n 0, 1) := by decide +kernel
theorem dX2_readWord_9 : decode cX2_readWord 9 = .ok (.getfield 9, 3) := by decide +kernel
theorem dX2_readWord_12 : decode cX2_readWord 12 = .ok (.putfield 15, 3) := by decide +kernel
theorem dX2_readWord_15 : decode cX2_readWord 15 = .ok (.iconst 0, 1) := by decide +kernel
theorem dX2_readWord_16 : decode cX2_readWord 16 = .ok (.istore_n 2, 1) := by decide +kernel
theorem dX2_readWord_17 : decode cX2_readWord 17 = .ok (.iload_n 2, 1) := by decide +kernel
theorem dX2_readWord_18 : decode cX2_readWord 18 = .ok (.aload_n 1, 1) := by decide +kernel
theorem dX2_readWord_19 : decode cX2_readWord 19 = .ok (.invokevirtual 100, 3) := by decide +kernel
theorem dX2_readWord_22 : decode cX2_readWord 22 = .ok (.if_icmp .ge 26, 3) := by decide +kernel
theorem dX2_readWord_25 : decode cX2_readWord 25 = .ok (.aload_n 0, 1) := by decide +kernel
theorem dX2_readWord_26 : decode cX2_readWord 26 = .ok (.getfield 15, 3) := by decide +kernel
theorem dX2_readWord_29 : decode cX2_readWord 29 = .ok (.iconst (-1), 1) := by decide +kernel
theorem dX2_readWord_30 : decode cX2_readWord 30 = .ok (.if_icmp .ne 18, 3) := by decide +kernel
theorem dX2_readWord_33 : decode cX2_readWord 33 = .ok (.aload_n 0, 1) := by decide +kernel
theorem dX2_readWord_34 : decode cX2_readWord 34 = .ok (.aload_n 1, 1) := by decide +kernel
theorem dX2_readWord_35 : decode cX2_readWord 35 = .ok (.iload_n 2, 1) := by decide +kernel
theorem dX2_readWord_36 : decode cX2_readWord 36 = .ok (.invokevirtual 103, 3) := by decide +kernel
theorem dX2_readWord_39 : decode cX2_readWord 39 = .ok (.invokevirtual 38, 3) := by decide +kernel
theorem dX2_readWord_42 : decode cX2_readWord 42 = .ok (.iinc 2 1, 3) := by decide +kernel
theorem dX2_readWord_45 : decode cX2_readWord 45 = .ok (.goto (-28), 3) := by decide +kernel
theorem dX2_readWord_48 : decode cX2_readWord 48 = .ok (.return_, 1) := by decide +kernel
theorem dX2_readLength_0 : decode cX2_readLength 0 = .ok (.aload_n 0, 1) := by decide +kernel
theorem dX2_readLength_1 : decode cX2_readLength 1 = .ok (.iconst 2, 1) := by decide +kernel
theorem dX2_readLength_2 : decode cX2_readLength 2 = .ok (.bipush 24, 2) := by decide +kernel
theorem dX2_readLength_4 : decode cX2_readLength 4 = .ok (.invokevirtual 70, 3) := by decide +kernel
theorem dX2_readLength_7 : decode cX2_readLength 7 = .ok (.istore_n 1, 1) := by decide +kernel
theorem dX2_readLength_8 : decode cX2_readLength 8 = .ok (.aload_n 0, 1) := by decide +kernel
theorem dX2_readLength_9 : decode cX2_readLength 9 = .ok (.getfield 15, 3) := by decide +kernel
theorem dX2_readLength_12 : decode cX2_readLength 12 = .ok (.iconst (-1), 1) := by decide +kernel
theorem dX2_readLength_13 : decode cX2_readLength 13 = .ok (.if_icmp .ne 16, 3) := by decide +kernel
theorem dX2_readLength_16 : decode cX2_readLength 16 = .ok (.aload_n 0, 1) := by decide +kernel
theorem dX2_readLength_17 : decode cX2_readLength 17 = .ok (.getfield 26, 3) := by decide +kernel
theorem dX2_readLength_20 : decode cX2_readLength 20 = .ok (.iload_n 1, 1) := by decide +kernel
theorem dX2_readLength_21 : decode cX2_readLength 21 = .ok (.invokevirtual 107, 3) := by decide +kernel
theorem dX2_readLength_24 : decode cX2_readLength 24 = .ok (.aload_n 0, 1) := by decide +kernel
theorem dX2_readLength_25 : decode cX2_readLength 25 = .ok (.iconst 1, 1) := by decide +kernel
theorem dX2_readLength_26 : decode cX2_readLength 26 = .ok (.putfield 18, 3) := by decide +kernel
theorem dX2_readLength_29 : decode cX2_readLength 29 = .ok (.return_, 1) := by decide +kernel
theorem dX2_readSign_0 : decode cX2_readSign 0 = .ok (.aload_n 0, 1) := by decide +kernel
theorem dX2_readSign_1 : decode cX2_readSign 1 = .ok (.getfield 26, 3) := by decide +kernel
theorem dX2_readSign_4 : decode cX2_readSign 4 = .ok (.invokevirtual 110, 3) := by decide +kernel
theorem dX2_readSign_7 : decode cX2_readSign 7 = .ok (.ifCond .ne 8, 3) := by decide +kernel
theorem dX2_readSign_10 : decode cX2_readSign 10 = .ok (.aload_n 0, 1) := by decide +kernel
theorem dX2_readSign_11 : decode cX2_readSign 11 = .ok (.iload_n 1, 1) := by decide +kernel
theorem dX2_readSign_12 : decode cX2_readSign 12 = .ok (.putfield 15, 3) := by decide +kernel
theorem dX2_readSign_15 : decode cX2_readSign 15 = .ok (.aload_n 0, 1) := by decide +kernel
theorem dX2_readSign_16 : decode cX2_readSign 16 = .ok (.iconst 0, 1) := by decide +kernel
theorem dX2_readSign_17 : decode cX2_readSign 17 = .ok (.bipush 6, 2) := by decide +kernel
theorem dX2_readSign_19 : decode cX2_readSign 19 = .ok (.invokevirtual 70, 3) := by decide +kernel
theorem dX2_readSign_22 : decode cX2_readSign 22 = .ok (.istore_n 2, 1) := by decide +kernel
theorem dX2_readSign_23 : decode cX2_readSign 23 = .ok (.aload_n 0, 1) := by decide +kernel
theorem dX2_readSign_24 : decode cX2_readSign 24 = .ok (.iconst 0, 1) := by decide +kernel
theorem dX2_readSign_25 : decode cX2_readSign 25 = .ok (.aload_n 0, 1) := by decide +kernel
theorem dX2_readSign_26 : decode cX2_readSign 26 = .ok (.getfield 26, 3) := by decide +kernel
theorem dX2_readSign_29 : decode cX2_readSign 29 = .ok (.getfield 113, 3) := by decide +kernel
theorem dX2_readSign_32 : decode cX2_readSign 32 = .ok (.iconst 1, 1) := by decide +kernel
theorem dX2_readSign_33 : decode cX2_readSign 33 = .ok (.isub, 1) := by decide +kernel
theorem dX2_readSign_34 : decode cX2_readSign 34 = .ok (.invokevirtual 70, 3) := by decide +kernel
theorem dX2_readSign_37 : decode cX2_readSign 37 = .ok (.istore_n 3, 1) := by decide +kernel
theorem dX2_readSign_38 : decode cX2_readSign 38 = .ok (.aload_n 0, 1) := by decide +kernel
theorem dX2_readSign_39 : decode cX2_readSign 39 = .ok (.iconst 1, 1) := by decide +kernel
theorem dX2_readSign_40 : decode cX2_readSign 40 = .ok (.bipush 10, 2) := by decide +kernel
theorem dX2_readSign_42 : decode cX2_readSign 42 = .ok (.invokevirtual 70, 3) := by decide +kernel
theorem dX2_readSign_45 : decode cX2_readSign 45 = .ok (.istore 4, 2) := by decide +kernel
theorem dX2_readSign_47 : decode cX2_readSign 47 = .ok (.aload_n 0, 1) := by decide +kernel
theorem dX2_readSign_48 : decode cX2_readSign 48 = .ok (.iconst 0, 1) := by decide +kernel
theorem dX2_readSign_49 : decode cX2_readSign 49 = .ok (.sipush 255, 3) := by decide +kernel
theorem dX2_readSign_52 : decode cX2_readSign 52 = .ok (.invokevirtual 70, 3) := by decide +kernel
theorem dX2_readSign_55 : decode cX2_readSign 55 = .ok (.istore 5, 2) := by decide +kernel
theorem dX2_readSign_57 : decode cX2_readSign 57 = .ok (.aload_n 0, 1) := by decide +kernel
theorem dX2_readSign_58 : decode cX2_readSign 58 = .ok (.getfield 15, 3) := by decide +kernel
theorem dX2_readSign_61 : decode cX2_readSign 61 = .ok (.iconst (-1), 1) := by decide +kernel
theorem dX2_readSign_62 : decode cX2_readSign 62 = .ok (.if_icmp .ne 17, 3) := by decide +kernel
theorem dX2_readSign_65 : decode cX2_readSign 65 = .ok (.aload_n 0, 1) := by decide +kernel
theorem dX2_readSign_66 : decode cX2_readSign 66 = .ok (.getfield 26, 3) := by decide +kernel
theorem dX2_readSign_69 : decode cX2_readSign 69 = .ok (.iload_n 2, 1) := by decide +kernel
theorem dX2_readSign_70 : decode cX2_readSign 70 = .ok (.iload_n 3, 1) := by decide +kernel
theorem dX2_readSign_71 : decode cX2_readSign 71 = .ok (.iload 4, 2) := by decide +kernel
theorem dX2_readSign_73 : decode cX2_readSign 73 = .ok (.iload 5, 2) := by decide +kernel
theorem dX2_readSign_75 : decode cX2_readSign 75 = .ok (.invokevirtual 115, 3) := by decide +kernel
theorem dX2_readSign_78 : decode cX2_readSign 78 = .ok (.pop, 1) := by decide +kernel
theorem dX2_readSign_79 : decode cX2_readSign 79 = .ok (.return_, 1) := by decide +kernel
theorem dX2_readThing_0 : decode cX2_readThing 0 = .ok (.aload_n 0, 1) := by decide +kernel
theorem dX2_readThing_1 : decode cX2_readThing 1 = .ok (.getfield 26, 3) := by decide +kernel
theorem dX2_readThing_4 : decode cX2_readThing 4 = .ok (.invokevirtual 119, 3) := by decide +kernel
theorem dX2_readThing_7 : decode cX2_readThing 7 = .ok (.ifCond .ne 8, 3) := by decide +kernel
theorem dX2_readThing_10 : decode cX2_readThing 10 = .ok (.aload_n 0, 1) := by decide +kernel
theorem dX2_readThing_11 : decode cX2_readThing 11 = .ok (.iload_n 1, 1) := by decide +kernel
theorem dX2_readThing_12 : decode cX2_readThing 12 = .ok (.putfield 15, 3) := by decide +kernel
theorem dX2_readThing_15 : decode cX2_readThing 15 = .ok (.aload_n 0, 1) := by decide +kernel
theorem dX2_readThing_16 : decode cX2_readThing 16 = .ok (.iconst 0, 1) := by decide +kernel
theorem dX2_readThing_17 : decode cX2_readThing 17 = .ok (.aload_n 0, 1) := by decide +kernel
theorem dX2_readThing_18 : decode cX2_readThing 18 = .ok (.getfield 26, 3) := by decide +kernel
theorem dX2_readThing_21 : decode cX2_readThing 21 = .ok (.getfield 113, 3) := by decide +kernel
theorem dX2_readThing_24 : decode cX2_readThing 24 = .ok (.iconst 1, 1) := by decide +kernel
theorem dX2_readThing_25 : decode cX2_readThing 25 = .ok (.isub, 1) := by decide +kernel
theorem dX2_readThing_26 : decode cX2_readThing 26 = .ok (.invokevirtual 70, 3) := by decide +kernel
theorem dX2_readThing_29 : decode cX2_readThing 29 = .ok (.istore_n 2, 1) := by decide +kernel
theorem dX2_readThing_30 : decode cX2_readThing 30 = .ok (.aload_n 0, 1) := by decide +kernel
theorem dX2_readThing_31 : decode cX2_readThing 31 = .ok (.iconst 0, 1) := by decide +kernel
theorem dX2_readThing_32 : decode cX2_readThing 32 = .ok (.iconst 1, 1) := by decide +kernel
theorem dX2_readThing_33 : decode cX2_readThing 33 = .ok (.invokevirtual 70, 3) := by decide +kernel
theorem dX2_readThing_36 : decode cX2_readThing 36 = .ok (.istore_n 3, 1) := by decide +kernel
theorem dX2_readThing_37 : decode cX2_readThing 37 = .ok (.aload_n 0, 1) := by decide +kernel
theorem dX2_readThing_38 : decode cX2_readThing 38 = .ok (.iconst 1, 1) := by decide +kernel
theorem dX2_readThing_39 : decode cX2_readThing 39 = .ok (.bipush 10, 2) := by decide +kernel
theorem dX2_readThing_41 : decode cX2_readThing 41 = .ok (.invokevirtual 70, 3) := by decide +kernel
theorem dX2_readThing_44 : decode cX2_readThing 44 = .ok (.istore 4, 2) := by decide +kernel
theorem dX2_readThing_46 : decode cX2_readThing 46 = .ok (.aload_n 0, 1) := by decide +kernel
theorem dX2_readThing_47 : decode cX2_readThing 47 = .ok (.getfield 15, 3) := by decide +kernel
theorem dX2_readThing_50 : decode cX2_readThing 50 = .ok (.iconst (-1), 1) := by decide +kernel
theorem dX2_readThing_51 : decode cX2_readThing 51 = .ok (.if_icmp .ne 24, 3) := by decide +kernel
theorem dX2_readThing_54 : decode cX2_readThing 54 = .ok (.aload_n 0, 1) := by decide +kernel
theorem dX2_readThing_55 : decode cX2_readThing 55 = .ok (.getfield 26, 3) := by decide +kernel
theorem dX2_readThing_58 : decode cX2_readThing 58 = .ok (.iload_n 2, 1) := by decide +kernel
theorem dX2_readThing_59 : decode cX2_readThing 59 = .ok (.iload_n 3, 1) := by decide +kernel
theorem dX2_readThing_60 : decode cX2_readThing 60 = .ok (.iconst 1, 1) := by decide +kernel
theorem dX2_readThing_61 : decode cX2_readThing 61 = .ok (.if_icmp .ne 7, 3) := by decide +kernel
theorem dX2_readThing_64 : decode cX2_readThing 64 = .ok (.iconst 1, 1) := by decide +kernel
theorem dX2_readThing_65 : decode cX2_readThing 65 = .ok (.goto 4, 3) := by decide +kernel
theorem dX2_readThing_68 : decode cX2_readThing 68 = .ok (.iconst 0, 1) := by decide +kernel
theorem dX2_readThing_69 : decode cX2_readThing 69 = .ok (.iload 4, 2) := by decide +kernel
theorem dX2_readThing_71 : decode cX2_readThing 71 = .ok (.invokevirtual 122, 3) := by decide +kernel
theorem dX2_readThing_74 : decode cX2_readThing 74 = .ok (.pop, 1) := by decide +kernel
theorem dX2_readThing_75 : decode cX2_readThing 75 = .ok (.return_, 1) := by decide +kernel
theorem dX2_readWander_0 : decode cX2_readWander 0 = .ok (.aload_n 0, 1) := by decide +kernel
theorem dX2_readWander_1 : decode cX2_readWander 1 = .ok (.iconst 0, 1) := by decide +kernel
theorem dX2_readWander_2 : decode cX2_readWander 2 = .ok (.bipush 10, 2) := by decide +kernel
theorem dX2_readWander_4 : decode cX2_readWander 4 = .ok (.invokevirtual 70, 3) := by decide +kernel
theorem dX2_readWander_7 : decode cX2_readWander 7 = .ok (.istore_n 1, 1) := by decide +kernel
theorem dX2_readWander_8 : decode cX2_readWander 8 = .ok (.aload_n 0, 1) := by decide +kernel
theorem dX2_readWander_9 : decode cX2_readWander 9 = .ok (.iconst 0, 1) := by decide +kernel
theorem dX2_readWander_10 : decode cX2_readWander 10 = .ok (.bipush 10, 2) := by decide +kernel
theorem dX2_readWander_12 : decode cX2_readWander 12 = .ok (.iload_n 1, 1) := by decide +kernel
theorem dX2_readWander_13 : decode cX2_readWander 13 = .ok (.isub, 1) := by decide +kernel
theorem dX2_readWander_14 : decode cX2_readWander 14 = .ok (.invokevirtual 70, 3) := by decide +kernel
theorem dX2_readWander_17 : decode cX2_readWander 17 = .ok (.istore_n 2, 1) := by decide +kernel
theorem dX2_readWander_18 : decode cX2_readWander 18 = .ok (.aload_n 0, 1) := by decide +kernel
theorem dX2_readWander_19 : decode cX2_readWander 19 = .ok (.getfield 26, 3) := by decide +kernel
theorem dX2_readWander_22 : decode cX2_readWander 22 = .ok (.iload_n 1, 1) := by decide +kernel
theorem dX2_readWander_23 : decode cX2_readWander 23 = .ok (.putfield 126, 3) := by decide +kernel
theorem dX2_readWander_26 : decode cX2_readWander 26 = .ok (.aload_n 0, 1) := by decide +kernel
theorem dX2_readWander_27 : decode cX2_readWander 27 = .ok (.getfield 26, 3) := by decide +kernel
theorem dX2_readWander_30 : decode cX2_readWander 30 = .ok (.iload_n 2, 1) := by decide +kernel
theorem dX2_readWander_31 : decode cX2_readWander 31 = .ok (.putfield 129, 3) := by decide +kernel
theorem dX2_readWander_34 : decode cX2_readWander 34 = .ok (.return_, 1) := by decide +kernel
theorem dX2_readNumber_0 : decode cX2_readNumber 0 = .ok (.aload_n 0, 1) := by decide +kernel
theorem dX2_readNumber_1 : decode cX2_readNumber 1 = .ok (.getfield 15, 3) := by decide +kernel
theorem dX2_readNumber_4 : decode cX2_readNumber 4 = .ok (.iconst (-1), 1) := by decide +kernel
theorem dX2_readNumber_5 : decode cX2_readNumber 5 = .ok (.if_icmp .ne 9, 3) := by decide +kernel
theorem dX2_readNumber_8 : decode cX2_readNumber 8 = .ok (.aload_n 0, 1) := by decide +kernel
theorem dX2_readNumber_9 : decode cX2_readNumber 9 = .ok (.bipush 32, 2) := by decide +kernel
theorem dX2_readNumber_11 : decode cX2_readNumber 11 = .ok (.invokevirtual 38, 3) := by decide +kernel
theorem dX2_readNumber_14 : decode cX2_readNumber 14 = .ok (.aload_n 0, 1) := by decide +kernel
theorem dX2_readNumber_15 : decode cX2_readNumber 15 = .ok (.getfield 15, 3) := by decide +kernel
theorem dX2_readNumber_18 : decode cX2_readNumber 18 = .ok (.iconst (-1), 1) := by decide +kernel
theorem dX2_readNumber_19 : decode cX2_readNumber 19 = .ok (.if_icmp .eq 5, 3) := by decide +kernel
theorem dX2_readNumber_22 : decode cX2_readNumber 22 = .ok (.iload_n 1, 1) := by decide +kernel
theorem dX2_readNumber_23 : decode cX2_readNumber 23 = .ok (.ireturn, 1) := by decide +kernel
theorem dX2_readNumber_24 : decode cX2_readNumber 24 = .ok (.aload_n 0, 1) := by decide +kernel
theorem dX2_readNumber_25 : decode cX2_readNumber 25 = .ok (.getfield 9, 3) := by decide +kernel
theorem dX2_readNumber_28 : decode cX2_readNumber 28 = .ok (.istore_n 3, 1) := by decide +kernel
theorem dX2_readNumber_29 : decode cX2_readNumber 29 = .ok (.iconst 0, 1) := by decide +kernel
theorem dX2_readNumber_30 : decode cX2_readNumber 30 = .ok (.istore 4, 2) := by decide +kernel
theorem dX2_readNumber_32 : decode cX2_readNumber 32 = .ok (.iconst 0, 1) := by decide +kernel
theorem dX2_readNumber_33 : decode cX2_readNumber 33 = .ok (.istore 5, 2) := by decide +kernel
theorem dX2_readNumber_35 : decode cX2_readNumber 35 = .ok (.iload 5, 2) := by decide +kernel
theorem dX2_readNumber_37 : decode cX2_readNumber 37 = .ok (.iconst 3, 1) := by decide +kernel
theorem dX2_readNumber_38 : decode cX2_readNumber 38 = .ok (.if_icmp .ge 52, 3) := by decide +kernel
theorem dX2_readNumber_41 : decode cX2_readNumber 41 = .ok (.aload_n 0, 1) := by decide +kernel
theorem dX2_readNumber_42 : decode cX2_readNumber 42 = .ok (.invokevirtual 46, 3) := by decide +kernel
theorem dX2_readNumber_45 : decode cX2_readNumber 45 = .ok (.bipush 48, 2) := by decide +kernel
theorem dX2_readNumber_47 : decode cX2_readNumber 47 = .ok (.if_icmp .lt 43, 3) := by decide +kernel
theorem dX2_readNumber_50 : decode cX2_readNumber 50 = .ok (.aload_n 0, 1) := by decide +kernel
theorem dX2_readNumber_51 : decode cX2_readNumber 51 = .ok (.invokevirtual 46, 3) := by decide +kernel
theorem dX2_readNumber_54 : decode cX2_readNumber 54 = .ok (.bipush 57, 2) := by decide +kernel
theorem dX2_readNumber_56 : decode cX2_readNumber 56 = .ok (.if_icmp .gt 34, 3) := by decide +kernel
theorem dX2_readNumber_59 : decode cX2_readNumber 59 = .ok (.bipush 10, 2) := by decide +kernel
theorem dX2_readNumber_61 : decode cX2_readNumber 61 = .ok (.iload 4, 2) := by decide +kernel
theorem dX2_readNumber_63 : decode cX2_readNumber 63 = .ok (.imul, 1) := by decide +kernel
theorem dX2_readNumber_64 : decode cX2_readNumber 64 = .ok (.aload_n 0, 1) := by decide +kernel
theorem dX2_readNumber_65 : decode cX2_readNumber 65 = .ok (.invokevirtual 46, 3) := by decide +kernel
theorem dX2_readNumber_68 : decode cX2_readNumber 68 = .ok (.iadd, 1) := by decide +kernel
theorem dX2_readNumber_69 : decode cX2_readNumber 69 = .ok (.bipush 48, 2) := by decide +kernel
theorem dX2_readNumber_71 : decode cX2_readNumber 71 = .ok (.isub, 1) := by decide +kernel
theorem dX2_readNumber_72 : decode cX2_readNumber 72 = .ok (.istore 4, 2) := by decide +kernel
theorem dX2_readNumber_74 : decode cX2_readNumber 74 = .ok (.aload_n 0, 1) := by decide +kernel
theorem dX2_readNumber_75 : decode cX2_readNumber 75 = .ok (.dup, 1) := by decide +kernel
theorem dX2_readNumber_76 : decode cX2_readNumber 76 = .ok (.getfield 9, 3) := by decide +kernel
theorem dX2_readNumber_79 : decode cX2_readNumber 79 = .ok (.iconst 1, 1) := by decide +kernel
theorem dX2_readNumber_80 : decode cX2_readNumber 80 = .ok (.iadd, 1) := by decide +kernel
theorem dX2_readNumber_81 : decode cX2_readNumber 81 = .ok (.putfield 9, 3) := by decide +kernel
theorem dX2_readNumber_84 : decode cX2_readNumber 84 = .ok (.iinc 5 1, 3) := by decide +kernel
theorem dX2_readNumber_87 : decode cX2_readNumber 87 = .ok (.goto (-52), 3) := by decide +kernel
theorem dX2_readNumber_90 : decode cX2_readNumber 90 = .ok (.aload_n 0, 1) := by decide +kernel
theorem dX2_readNumber_91 : decode cX2_readNumber 91 = .ok (.getfield 9, 3) := by decide +kernel
theorem dX2_readNumber_94 : decode cX2_readNumber 94 = .ok (.iload_n 3, 1) := by decide +kernel
theorem dX2_readNumber_95 : decode cX2_readNumber 95 = .ok (.if_icmp .eq 15, 3) := by decide +kernel
theorem dX2_readNumber_98 : decode cX2_readNumber 98 = .ok (.iload 4, 2) := by decide +kernel
theorem dX2_readNumber_100 : decode cX2_readNumber 100 = .ok (.iload_n 1, 1) := by decide +kernel
theorem dX2_readNumber_101 : decode cX2_readNumber 101 = .ok (.if_icmp .lt 9, 3) := by decide +kernel
theorem dX2_readNumber_104 : decode cX2_readNumber 104 = .ok (.iload 4, 2) := by decide +kernel
theorem dX2_readNumber_106 : decode cX2_readNumber 106 = .ok (.iload_n 2, 1) := by decide +kernel
theorem dX2_readNumber_107 : decode cX2_readNumber 107 = .ok (.if_icmp .le 8, 3) := by decide +kernel
theorem dX2_readNumber_110 : decode cX2_readNumber 110 = .ok (.aload_n 0, 1) := by decide +kernel
theorem dX2_readNumber_111 : decode cX2_readNumber 111 = .ok (.iload_n 3, 1) := by decide +kernel
theorem dX2_readNumber_112 : decode cX2_readNumber 112 = .ok (.putfield 15, 3) := by decide +kernel
theorem dX2_readNumber_115 : decode cX2_readNumber 115 = .ok (.iload 4, 2) := by decide +kernel
theorem dX2_readNumber_117 : decode cX2_readNumber 117 = .ok (.ireturn, 1) := by decide +kernel
theorem dX3_init_0 : decode cX3_init 0 = .ok (.aload_n 0, 1) := by decide +kernel
theorem dX3_init_1 : decode cX3_init 1 = .ok (.invokespecial 3, 3) := by decide +kernel
theorem dX3_init_4 : decode cX3_init 4 = .ok (.aload_n 0, 1) := by decide +kernel
theorem dX3_init_5 : decode cX3_init 5 = .ok (.iconst (-1), 1) := by decide +kernel
theorem dX3_init_6 : decode cX3_init 6 = .ok (.putfield 9, 3) := by decide +kernel
theorem dX3_init_9 : decode cX3_init 9 = .ok (.aload_n 0, 1) := by decide +kernel
theorem dX3_init_10 : decode cX3_init 10 = .ok (.iconst 0, 1) := by decide +kernel
theorem dX3_init_11 : decode cX3_init 11 = .ok (.putfield 15, 3) := by decide +kernel
theorem dX3_init_14 : decode cX3_init 14 = .ok (.aload_n 0, 1) := by decide +kernel
theorem dX3_init_15 : decode cX3_init 15 = .ok (.sipush 160, 3) := by decide +kernel
theorem dX3_init_18 : decode cX3_init 18 = .ok (.newarray .long, 2) := by decide +kernel
theorem dX3_init_20 : decode cX3_init 20 = .ok (.putfield 18, 3) := by decide +kernel
theorem dX3_init_23 : decode cX3_init 23 = .ok (.return_, 1) := by decide +kernel
theorem dX3_holdsRow_0 : decode cX3_holdsRow 0 = .ok (.aload_n 0, 1) := by decide +kernel
theorem dX3_holdsRow_1 : decode cX3_holdsRow 1 = .ok (.getfield 9, 3) := by decide +kernel
theorem dX3_holdsRow_4 : decode cX3_holdsRow 4 = .ok (.bipush 100, 2) := by decide +kernel
theorem dX3_holdsRow_6 : decode cX3_holdsRow 6 = .ok (.if_icmp .lt 7, 3) := by decide +kernel
theorem dX3_holdsRow_9 : decode cX3_holdsRow 9 = .ok (.iconst 1, 1) := by decide +kernel
theorem dX3_holdsRow_10 : decode cX3_holdsRow 10 = .ok (.goto 4, 3) := by decide +kernel
theorem dX3_holdsRow_13 : decode cX3_holdsRow 13 = .ok (.iconst 0, 1) := by decide +kernel
theorem dX3_holdsRow_14 : decode cX3_holdsRow 14 = .ok (.ireturn, 1) := by decide +kernel
theorem dX3_takeRow_0 : decode cX3_takeRow 0 = .ok (.aload_n 0, 1) := by decide +kernel
theorem dX3_takeRow_1 : decode cX3_takeRow 1 = .ok (.bipush 100, 2) := by decide +kernel
theorem dX3_takeRow_3 : decode cX3_takeRow 3 = .ok (.iload_n 1, 1) := by decide +kernel
theorem dX3_takeRow_4 : decode cX3_takeRow 4 = .ok (.iadd, 1) := by decide +kernel
theorem dX3_takeRow_5 : decode cX3_takeRow 5 = .ok (.putfield 9, 3) := by decide +kernel
theorem dX3_takeRow_8 : decode cX3_takeRow 8 = .ok (.aload_n 0, 1) := by decide +kernel
theorem dX3_takeRow_9 : decode cX3_takeRow 9 = .ok (.iload_n 2, 1) := by decide +kernel
theorem dX3_takeRow_10 : decode cX3_takeRow 10 = .ok (.putfield 15, 3) := by decide +kernel
theorem dX3_takeRow_13 : decode cX3_takeRow 13 = .ok (.aload_n 0, 1) := by decide +kernel
theorem dX3_takeRow_14 : decode cX3_takeRow 14 = .ok (.getfield 18, 3) := by decide +kernel
theorem dX3_takeRow_17 : decode cX3_takeRow 17 = .ok (.lconst 0, 1) := by decide +kernel
theorem dX3_takeRow_18 : decode cX3_takeRow 18 = .ok (.invokestatic 22, 3) := by decide +kernel
theorem dX3_takeRow_21 : decode cX3_takeRow 21 = .ok (.return_, 1) := by decide +kernel
theorem dX3_takeSign_0 : decode cX3_takeSign 0 = .ok (.aload_n 0, 1) := by decide +kernel
theorem dX3_takeSign_1 : decode cX3_takeSign 1 = .ok (.iload_n 1, 1) := by decide +kernel
theorem dX3_takeSign_2 : decode cX3_takeSign 2 = .ok (.putfield 9, 3) := by decide +kernel
theorem dX3_takeSign_5 : decode cX3_takeSign 5 = .ok (.aload_n 0, 1) := by decide +kernel
theorem dX3_takeSign_6 : decode cX3_takeSign 6 = .ok (.iconst 0, 1) := by decide +kernel
theorem dX3_takeSign_7 : decode cX3_takeSign 7 = .ok (.putfield 15, 3) := by decide +kernel
theorem dX3_takeSign_10 : decode cX3_takeSign 10 = .ok (.return_, 1) := by decide +kernel
theorem dX3_hasRun_0 : decode cX3_hasRun 0 = .ok (.iload_n 2, 1) := by decide +kernel
theorem dX3_hasRun_1 : decode cX3_hasRun 1 = .ok (.ifCond .lt 29, 3) := by decide +kernel
theorem dX3_hasRun_4 : decode cX3_hasRun 4 = .ok (.iload_n 2, 1) := by decide +kernel
theorem dX3_hasRun_5 : decode cX3_hasRun 5 = .ok (.aload_n 0, 1) := by decide +kernel
theorem dX3_hasRun_6 : decode cX3_hasRun 6 = .ok (.getfield 15, 3) := by decide +kernel
theorem dX3_hasRun_9 : decode cX3_hasRun 9 = .ok (.if_icmp .gt 21, 3) := by decide +kernel
theorem dX3_hasRun_12 : decode cX3_hasRun 12 = .ok (.iload_n 1, 1) := by decide +kernel
theorem dX3_hasRun_13 : decode cX3_hasRun 13 = .ok (.ifCond .lt 17, 3) := by decide +kernel
theorem dX3_hasRun_16 : decode cX3_hasRun 16 = .ok (.iload_n 1, 1) := by decide +kernel
theorem dX3_hasRun_17 : decode cX3_hasRun 17 = .ok (.aload_n 0, 1) := by decide +kernel
theorem dX3_hasRun_18 : decode cX3_hasRun 18 = .ok (.getfield 15, 3) := by decide +kernel
theorem dX3_hasRun_21 : decode cX3_hasRun 21 = .ok (.iload_n 2, 1) := by decide +kernel
theorem dX3_hasRun_22 : decode cX3_hasRun 22 = .ok (.isub, 1) := by decide +kernel
theorem dX3_hasRun_23 : decode cX3_hasRun 23 = .ok (.if_icmp .gt 7, 3) := by decide +kernel
theorem dX3_hasRun_26 : decode cX3_hasRun 26 = .ok (.iconst 1, 1) := by decide +kernel
theorem dX3_hasRun_27 : decode cX3_hasRun 27 = .ok (.goto 4, 3) := by decide +kernel
theorem dX3_hasRun_30 : decode cX3_hasRun 30 = .ok (.iconst 0, 1) := by decide +kernel
theorem dX3_hasRun_31 : decode cX3_hasRun 31 = .ok (.ireturn, 1) := by decide +kernel
theorem dX3_valueAt_0 : decode cX3_valueAt 0 = .ok (.iload_n 1, 1) := by decide +kernel
theorem dX3_valueAt_1 : decode cX3_valueAt 1 = .ok (.ifCond .lt 18, 3) := by decide +kernel
theorem dX3_valueAt_4 : decode cX3_valueAt 4 = .ok (.iload_n 1, 1) := by decide +kernel
theorem dX3_valueAt_5 : decode cX3_valueAt 5 = .ok (.aload_n 0, 1) := by decide +kernel
theorem dX3_valueAt_6 : decode cX3_valueAt 6 = .ok (.getfield 15, 3) := by decide +kernel
theorem dX3_valueAt_9 : decode cX3_valueAt 9 = .ok (.if_icmp .ge 10, 3) := by decide +kernel
theorem dX3_valueAt_12 : decode cX3_valueAt 12 = .ok (.iload_n 1, 1) := by decide +kernel
theorem dX3_valueAt_13 : decode cX3_valueAt 13 = .ok (.sipush 160, 3) := by decide +kernel
theorem dX3_valueAt_16 : decode cX3_valueAt 16 = .ok (.if_icmp .lt 7, 3) := by decide +kernel
theorem dX3_valueAt_19 : decode cX3_valueAt 19 = .ok (.lconst 0, 1) := by decide +kernel
theorem dX3_valueAt_20 : decode cX3_valueAt 20 = .ok (.goto 9, 3) := by decide +kernel
theorem dX3_valueAt_23 : decode cX3_valueAt 23 = .ok (.aload_n 0, 1) := by decide +kernel
theorem dX3_valueAt_24 : decode cX3_valueAt 24 = .ok (.getfield 18, 3) := by decide +kernel
theorem dX3_valueAt_27 : decode cX3_valueAt 27 = .ok (.iload_n 1, 1) := by decide +kernel
theorem dX3_valueAt_28 : decode cX3_valueAt 28 = .ok (.laload, 1) := by decide +kernel
theorem dX3_valueAt_29 : decode cX3_valueAt 29 = .ok (.lreturn, 1) := by decide +kernel
theorem dX3_intAt_0 : decode cX3_intAt 0 = .ok (.iload_n 1, 1) := by decide +kernel
theorem dX3_intAt_1 : decode cX3_intAt 1 = .ok (.ifCond .lt 18, 3) := by decide +kernel
theorem dX3_intAt_4 : decode cX3_intAt 4 = .ok (.iload_n 1, 1) := by decide +kernel
theorem dX3_intAt_5 : decode cX3_intAt 5 = .ok (.aload_n 0, 1) := by decide +kernel
theorem dX3_intAt_6 : decode cX3_intAt 6 = .ok (.getfield 15, 3) := by decide +kernel
theorem dX3_intAt_9 : decode cX3_intAt 9 = .ok (.if_icmp .ge 10, 3) := by decide +kernel
theorem dX3_intAt_12 : decode cX3_intAt 12 = .ok (.iload_n 1, 1) := by decide +kernel
theorem dX3_intAt_13 : decode cX3_intAt 13 = .ok (.sipush 160, 3) := by decide +kernel
theorem dX3_intAt_16 : decode cX3_intAt 16 = .ok (.if_icmp .lt 7, 3) := by decide +kernel
theorem dX3_intAt_19 : decode cX3_intAt 19 = .ok (.iconst 0, 1) := by decide +kernel
theorem dX3_intAt_20 : decode cX3_intAt 20 = .ok (.goto 10, 3) := by decide +kernel
theorem dX3_intAt_23 : decode cX3_intAt 23 = .ok (.aload_n 0, 1) := by decide +kernel
theorem dX3_intAt_24 : decode cX3_intAt 24 = .ok (.getfield 18, 3) := by decide +kernel
theorem dX3_intAt_27 : decode cX3_intAt 27 = .ok (.iload_n 1, 1) := by decide +kernel
theorem dX3_intAt_28 : decode cX3_intAt 28 = .ok (.laload, 1) := by decide +kernel
theorem dX3_intAt_29 : decode cX3_intAt 29 = .ok (.l2i, 1) := by decide +kernel
theorem dX3_intAt_30 : decode cX3_intAt 30 = .ok (.ireturn, 1) := by decide +kernel
theorem dX3_put_0 : decode cX3_put 0 = .ok (.iload_n 1, 1) := by decide +kernel
theorem dX3_put_1 : decode cX3_put 1 = .ok (.ifCond .lt 21, 3) := by decide +kernel
theorem dX3_put_4 : decode cX3_put 4 = .ok (.iload_n 1, 1) := by decide +kernel
theorem dX3_put_5 : decode cX3_put 5 = .ok (.sipush 160, 3) := by decide +kernel
theorem dX3_put_8 : decode cX3_put 8 = .ok (.if_icmp .ge 14, 3) := by decide +kernel
theorem dX3_put_11 : decode cX3_put 11 = .ok (.aload_n 0, 1) := by decide +kernel
theorem dX3_put_12 : decode cX3_put 12 = .ok (.getfield 18, 3) := by decide +kernel
theorem dX3_put_15 : decode cX3_put 15 = .ok (.iload_n 1, 1) := by decide +kernel
theorem dX3_put_16 : decode cX3_put 16 = .ok (.aload_n 0, 1) := by decide +kernel
theorem dX3_put_17 : decode cX3_put 17 = .ok (.lload_n 2, 1) := by decide +kernel
theorem dX3_put_18 : decode cX3_put 18 = .ok (.invokevirtual 28, 3) := by decide +kernel
theorem dX3_put_21 : decode cX3_put 21 = .ok (.lastore, 1) := by decide +kernel
theorem dX3_put_22 : decode cX3_put 22 = .ok (.return_, 1) := by decide +kernel
theorem dX3_lowestBits_0 : decode cX3_lowestBits 0 = .ok (.aload_n 0, 1) := by decide +kernel
theorem dX3_lowestBits_1 : decode cX3_lowestBits 1 = .ok (.getfield 9, 3) := by decide +kernel
theorem dX3_lowestBits_4 : decode cX3_lowestBits 4 = .ok (.bipush 100, 2) := by decide +kernel
theorem dX3_lowestBits_6 : decode cX3_lowestBits 6 = .ok (.isub, 1) := by decide +kernel
theorem dX3_lowestBits_7 : decode cX3_lowestBits 7 = .ok (.tableswitch 39 0 2 #[25, 30, 35], 25) := by decide +kernel
theorem dX3_lowestBits_32 : decode cX3_lowestBits 32 = .ok (.lload_n 1, 1) := by decide +kernel
theorem dX3_lowestBits_33 : decode cX3_lowestBits 33 = .ok (.l2i, 1) := by decide +kernel
theorem dX3_lowestBits_34 : decode cX3_lowestBits 34 = .ok (.i2b, 1) := by decide +kernel
theorem dX3_lowestBits_35 : decode cX3_lowestBits 35 = .ok (.i2l, 1) := by decide +kernel
theorem dX3_lowestBits_36 : decode cX3_lowestBits 36 = .ok (.lreturn, 1) := by decide +kernel
theorem dX3_lowestBits_37 : decode cX3_lowestBits 37 = .ok (.lload_n 1, 1) := by decide +kernel
theorem dX3_lowestBits_38 : decode cX3_lowestBits 38 = .ok (.l2i, 1) := by decide +kernel
theorem dX3_lowestBits_39 : decode cX3_lowestBits 39 = .ok (.i2s, 1) := by decide +kernel
theorem dX3_lowestBits_40 : decode cX3_lowestBits 40 = .ok (.i2l, 1) := by decide +kernel
theorem dX3_lowestBits_41 : decode cX3_lowestBits 41 = .ok (.lreturn, 1) := by decide +kernel
theorem dX3_lowestBits_42 : decode cX3_lowestBits 42 = .ok (.lload_n 1, 1) := by decide +kernel
theorem dX3_lowestBits_43 : decode cX3_lowestBits 43 = .ok (.l2i, 1) := by decide +kernel
theorem dX3_lowestBits_44 : decode cX3_lowestBits 44 = .ok (.i2l, 1) := by decide +kernel
theorem dX3_lowestBits_45 : decode cX3_lowestBits 45 = .ok (.lreturn, 1) := by decide +kernel
theorem dX3_lowestBits_46 : decode cX3_lowestBits 46 = .ok (.lload_n 1, 1) := by decide +kernel
theorem dX3_lowestBits_47 : decode cX3_lowestBits 47 = .ok (.lreturn, 1) := by decide +kernel
theorem dX4_init_0 : decode cX4_init 0 = .ok (.aload_n 0, 1) := by decide +kernel
theorem dX4_init_1 : decode cX4_init 1 = .ok (.invokespecial 3, 3) := by decide +kernel
theorem dX4_init_4 : decode cX4_init 4 = .ok (.aload_n 0, 1) := by decide +kernel
theorem dX4_init_5 : decode cX4_init 5 = .ok (.iload_n 1, 1) := by decide +kernel
theorem dX4_init_6 : decode cX4_init 6 = .ok (.putfield 9, 3) := by decide +kernel
theorem dX4_init_9 : decode cX4_init 9 = .ok (.aload_n 0, 1) := by decide +kernel
theorem dX4_init_10 : decode cX4_init 10 = .ok (.iload_n 2, 1) := by decide +kernel
theorem dX4_init_11 : decode cX4_init 11 = .ok (.putfield 15, 3) := by decide +kernel
theorem dX4_init_14 : decode cX4_init 14 = .ok (.aload_n 0, 1) := by decide +kernel
theorem dX4_init_15 : decode cX4_init 15 = .ok (.iload_n 3, 1) := by decide +kernel
theorem dX4_init_16 : decode cX4_init 16 = .ok (.putfield 18, 3) := by decide +kernel
theorem dX4_init_19 : decode cX4_init 19 = .ok (.aload_n 0, 1) := by decide +kernel
theorem dX4_init_20 : decode cX4_init 20 = .ok (.iload 4, 2) := by decide +kernel
theorem dX4_init_22 : decode cX4_init 22 = .ok (.putfield 21, 3) := by decide +kernel
theorem dX4_init_25 : decode cX4_init 25 = .ok (.aload_n 0, 1) := by decide +kernel
theorem dX4_init_26 : decode cX4_init 26 = .ok (.iload 5, 2) := by decide +kernel
theorem dX4_init_28 : decode cX4_init 28 = .ok (.putfield 24, 3) := by decide +kernel
theorem dX4_init_31 : decode cX4_init 31 = .ok (.return_, 1) := by decide +kernel
theorem dX4_isOf_0 : decode cX4_isOf 0 = .ok (.aload_n 0, 1) := by decide +kernel
theorem dX4_isOf_1 : decode cX4_isOf 1 = .ok (.getfield 15, 3) := by decide +kernel
theorem dX4_isOf_4 : decode cX4_isOf 4 = .ok (.istore_n 2, 1) := by decide +kernel
theorem dX4_isOf_5 : decode cX4_isOf 5 = .ok (.iconst 0, 1) := by decide +kernel
theorem dX4_isOf_6 : decode cX4_isOf 6 = .ok (.istore_n 3, 1) := by decide +kernel
theorem dX4_isOf_7 : decode cX4_isOf 7 = .ok (.iload_n 3, 1) := by decide +kernel
theorem dX4_isOf_8 : decode cX4_isOf 8 = .ok (.bipush 7, 2) := by decide +kernel
theorem dX4_isOf_10 : decode cX4_isOf 10 = .ok (.if_icmp .ge 32, 3) := by decide +kernel
theorem dX4_isOf_13 : decode cX4_isOf 13 = .ok (.iload_n 2, 1) := by decide +kernel
theorem dX4_isOf_14 : decode cX4_isOf 14 = .ok (.ifCond .lt 28, 3) := by decide +kernel
theorem dX4_isOf_17 : decode cX4_isOf 17 = .ok (.iload_n 2, 1) := by decide +kernel
theorem dX4_isOf_18 : decode cX4_isOf 18 = .ok (.bipush 7, 2) := by decide +kernel
theorem dX4_isOf_20 : decode cX4_isOf 20 = .ok (.if_icmp .ge 22, 3) := by decide +kernel
theorem dX4_isOf_23 : decode cX4_isOf 23 = .ok (.iload_n 2, 1) := by decide +kernel
theorem dX4_isOf_24 : decode cX4_isOf 24 = .ok (.iload_n 1, 1) := by decide +kernel
theorem dX4_isOf_25 : decode cX4_isOf 25 = .ok (.if_icmp .ne 5, 3) := by decide +kernel
theorem dX4_isOf_28 : decode cX4_isOf 28 = .ok (.iconst 1, 1) := by decide +kernel
theorem dX4_isOf_29 : decode cX4_isOf 29 = .ok (.ireturn, 1) := by decide +kernel
theorem dX4_isOf_30 : decode cX4_isOf 30 = .ok (.getstatic 27, 3) := by decide +kernel
theorem dX4_isOf_33 : decode cX4_isOf 33 = .ok (.iload_n 2, 1) := by decide +kernel
theorem dX4_isOf_34 : decode cX4_isOf 34 = .ok (.iaload, 1) := by decide +kernel
theorem dX4_isOf_35 : decode cX4_isOf 35 = .ok (.istore_n 2, 1) := by decide +kernel
theorem dX4_isOf_36 : decode cX4_isOf 36 = .ok (.iinc 3 1, 3) := by decide +kernel
theorem dX4_isOf_39 : decode cX4_isOf 39 = .ok (.goto (-32), 3) := by decide +kernel
theorem dX4_isOf_42 : decode cX4_isOf 42 = .ok (.iconst 0, 1) := by decide +kernel
theorem dX4_isOf_43 : decode cX4_isOf 43 = .ok (.ireturn, 1) := by decide +kernel
theorem dX5_init_0 : decode cX5_init 0 = .ok (.aload_n 0, 1) := by decide +kernel
theorem dX5_init_1 : decode cX5_init 1 = .ok (.invokespecial 3, 3) := by decide +kernel
theorem dX5_init_4 : decode cX5_init 4 = .ok (.aload_n 0, 1) := by decide +kernel
theorem dX5_init_5 : decode cX5_init 5 = .ok (.bipush 12, 2) := by decide +kernel
theorem dX5_init_7 : decode cX5_init 7 = .ok (.putfield 9, 3) := by decide +kernel
theorem dX5_init_10 : decode cX5_init 10 = .ok (.aload_n 0, 1) := by decide +kernel
theorem dX5_init_11 : decode cX5_init 11 = .ok (.iconst 1, 1) := by decide +kernel
theorem dX5_init_12 : decode cX5_init 12 = .ok (.putfield 15, 3) := by decide +kernel
theorem dX5_init_15 : decode cX5_init 15 = .ok (.aload_n 0, 1) := by decide +kernel
theorem dX5_init_16 : decode cX5_init 16 = .ok (.iconst 1, 1) := by decide +kernel
theorem dX5_init_17 : decode cX5_init 17 = .ok (.putfield 18, 3) := by decide +kernel
theorem dX5_init_20 : decode cX5_init 20 = .ok (.aload_n 0, 1) := by decide +kernel
theorem dX5_init_21 : decode cX5_init 21 = .ok (.iconst 0, 1) := by decide +kernel
theorem dX5_init_22 : decode cX5_init 22 = .ok (.putfield 21, 3) := by decide +kernel
theorem dX5_init_25 : decode cX5_init 25 = .ok (.aload_n 0, 1) := by decide +kernel
theorem dX5_init_26 : decode cX5_init 26 = .ok (.iconst 0, 1) := by decide +kernel
theorem dX5_init_27 : decode cX5_init 27 = .ok (.putfield 24, 3) := by decide +kernel
theorem dX5_init_30 : decode cX5_init 30 = .ok (.aload_n 0, 1) := by decide +kernel
theorem dX5_init_31 : decode cX5_init 31 = .ok (.iconst 5, 1) := by decide +kernel
theorem dX5_init_32 : decode cX5_init 32 = .ok (.putfield 28, 3) := by decide +kernel
theorem dX5_init_35 : decode cX5_init 35 = .ok (.aload_n 0, 1) := by decide +kernel
theorem dX5_init_36 : decode cX5_init 36 = .ok (.bipush 8, 2) := by decide +kernel
theorem dX5_init_38 : decode cX5_init 38 = .ok (.anewarray 31, 3) := by decide +kernel
theorem dX5_init_41 : decode cX5_init 41 = .ok (.putfield 33, 3) := by decide +kernel
theorem dX5_init_44 : decode cX5_init 44 = .ok (.aload_n 0, 1) := by decide +kernel
theorem dX5_init_45 : decode cX5_init 45 = .ok (.iconst 0, 1) := by decide +kernel
theorem dX5_init_46 : decode cX5_init 46 = .ok (.putfield 37, 3) := by decide +kernel
theorem dX5_init_49 : decode cX5_init 49 = .ok (.aload_n 0, 1) := by decide +kernel
theorem dX5_init_50 : decode cX5_init 50 = .ok (.bipush 8, 2) := by decide +kernel
theorem dX5_init_52 : decode cX5_init 52 = .ok (.anewarray 40, 3) := by decide +kernel
theorem dX5_init_55 : decode cX5_init 55 = .ok (.putfield 42, 3) := by decide +kernel
theorem dX5_init_58 : decode cX5_init 58 = .ok (.aload_n 0, 1) := by decide +kernel
theorem dX5_init_59 : decode cX5_init 59 = .ok (.iconst 0, 1) := by decide +kernel
theorem dX5_init_60 : decode cX5_init 60 = .ok (.putfield 46, 3) := by decide +kernel
theorem dX5_init_63 : decode cX5_init 63 = .ok (.aload_n 0, 1) := by decide +kernel
theorem dX5_init_64 : decode cX5_init 64 = .ok (.new 49, 3) := by decide +kernel
theorem dX5_init_67 : decode cX5_init 67 = .ok (.dup, 1) := by decide +kernel
theorem dX5_init_68 : decode cX5_init 68 = .ok (.invokespecial 51, 3) := by decide +kernel
theorem dX5_init_71 : decode cX5_init 71 = .ok (.putfield 52, 3) := by decide +kernel
theorem dX5_init_74 : decode cX5_init 74 = .ok (.aload_n 0, 1) := by decide +kernel
theorem dX5_init_75 : decode cX5_init 75 = .ok (.iconst 0, 1) := by decide +kernel
theorem dX5_init_76 : decode cX5_init 76 = .ok (.putfield 56, 3) := by decide +kernel
theorem dX5_init_79 : decode cX5_init 79 = .ok (.aload_n 0, 1) := by decide +kernel
theorem dX5_init_80 : decode cX5_init 80 = .ok (.iconst 0, 1) := by decide +kernel
theorem dX5_init_81 : decode cX5_init 81 = .ok (.putfield 59, 3) := by decide +kernel
theorem dX5_init_84 : decode cX5_init 84 = .ok (.aload_n 0, 1) := by decide +kernel
theorem dX5_init_85 : decode cX5_init 85 = .ok (.iconst (-1), 1) := by decide +kernel
theorem dX5_init_86 : decode cX5_init 86 = .ok (.putfield 62, 3) := by decide +kernel
theorem dX5_init_89 : decode cX5_init 89 = .ok (.aload_n 0, 1) := by decide +kernel
theorem dX5_init_90 : decode cX5_init 90 = .ok (.iconst 1, 1) := by decide +kernel
theorem dX5_init_91 : decode cX5_init 91 = .ok (.putfield 65, 3) := by decide +kernel
theorem dX5_init_94 : decode cX5_init 94 = .ok (.aload_n 0, 1) := by decide +kernel
theorem dX5_init_95 : decode cX5_init 95 = .ok (.getfield 52, 3) := by decide +kernel
theorem dX5_init_98 : decode cX5_init 98 = .ok (.aload_n 0, 1) := by decide +kernel
theorem dX5_init_99 : decode cX5_init 99 = .ok (.getfield 9, 3) := by decide +kernel
theorem dX5_init_102 : decode cX5_init 102 = .ok (.invokevirtual 68, 3) := by decide +kernel
theorem dX5_init_105 : decode cX5_init 105 = .ok (.return_, 1) := by decide +kernel
theorem dX5_becomeLike_0 : decode cX5_becomeLike 0 = .ok (.aload_n 0, 1) := by decide +kernel
theorem dX5_becomeLike_1 : decode cX5_becomeLike 1 = .ok (.aload_n 1, 1) := by decide +kernel
theorem dX5_becomeLike_2 : decode cX5_becomeLike 2 = .ok (.getfield 9, 3) := by decide +kernel
theorem dX5_becomeLike_5 : decode cX5_becomeLike 5 = .ok (.putfield 9, 3) := by decide +kernel
theorem dX5_becomeLike_8 : decode cX5_becomeLike 8 = .ok (.aload_n 0, 1) := by decide +kernel
theorem dX5_becomeLike_9 : decode cX5_becomeLike 9 = .ok (.aload_n 1, 1) := by decide +kernel
theorem dX5_becomeLike_10 : decode cX5_becomeLike 10 = .ok (.getfield 15, 3) := by decide +kernel
theorem dX5_becomeLike_13 : decode cX5_becomeLike 13 = .ok (.putfield 15, 3) := by decide +kernel
theorem dX5_becomeLike_16 : decode cX5_becomeLike 16 = .ok (.aload_n 0, 1) := by decide +kernel
theorem dX5_becomeLike_17 : decode cX5_becomeLike 17 = .ok (.aload_n 1, 1) := by decide +kernel
theorem dX5_becomeLike_18 : decode cX5_becomeLike 18 = .ok (.getfield 18, 3) := by decide +kernel
theorem dX5_becomeLike_21 : decode cX5_becomeLike 21 = .ok (.putfield 18, 3) := by decide +kernel
theorem dX5_becomeLike_24 : decode cX5_becomeLike 24 = .ok (.aload_n 0, 1) := by decide +kernel
theorem dX5_becomeLike_25 : decode cX5_becomeLike 25 = .ok (.aload_n 1, 1) := by decide +kernel
theorem dX5_becomeLike_26 : decode cX5_becomeLike 26 = .ok (.getfield 21, 3) := by decide +kernel
theorem dX5_becomeLike_29 : decode cX5_becomeLike 29 = .ok (.putfield 21, 3) := by decide +kernel
theorem dX5_becomeLike_32 : decode cX5_becomeLike 32 = .ok (.aload_n 0, 1) := by decide +kernel
theorem dX5_becomeLike_33 : decode cX5_becomeLike 33 = .ok (.aload_n 1, 1) := by decide +kernel
theorem dX5_becomeLike_34 : decode cX5_becomeLike 34 = .ok (.getfield 24, 3) := by decide +kernel
theorem dX5_becomeLike_37 : decode cX5_becomeLike 37 = .ok (.putfield 24, 3) := by decide +kernel
theorem dX5_becomeLike_40 : decode cX5_becomeLike 40 = .ok (.aload_n 0, 1) := by decide +kernel
theorem dX5_becomeLike_41 : decode cX5_becomeLike 41 = .ok (.aload_n 1, 1) := by decide +kernel
theorem dX5_becomeLike_42 : decode cX5_becomeLike 42 = .ok (.getfield 28, 3) := by decide +kernel
theorem dX5_becomeLike_45 : decode cX5_becomeLike 45 = .ok (.putfield 28, 3) := by decide +kernel
theorem dX5_becomeLike_48 : decode cX5_becomeLike 48 = .ok (.iconst 0, 1) := by decide +kernel
theorem dX5_becomeLike_49 : decode cX5_becomeLike 49 = .ok (.istore_n 2, 1) := by decide +kernel
theorem dX5_becomeLike_50 : decode cX5_becomeLike 50 = .ok (.iload_n 2, 1) := by decide +kernel
theorem dX5_becomeLike_51 : decode cX5_becomeLike 51 = .ok (.bipush 8, 2) := by decide +kernel
theorem dX5_becomeLike_53 : decode cX5_becomeLike 53 = .ok (.if_icmp .ge 21, 3) := by decide +kernel
theorem dX5_becomeLike_56 : decode cX5_becomeLike 56 = .ok (.aload_n 0, 1) := by decide +kernel
theorem dX5_becomeLike_57 : decode cX5_becomeLike 57 = .ok (.getfield 33, 3) := by decide +kernel
theorem dX5_becomeLike_60 : decode cX5_becomeLike 60 = .ok (.iload_n 2, 1) := by decide +kernel
theorem dX5_becomeLike_61 : decode cX5_becomeLike 61 = .ok (.aload_n 1, 1) := by decide +kernel
theorem dX5_becomeLike_62 : decode cX5_becomeLike 62 = .ok (.getfield 33, 3) := by decide +kernel
theorem dX5_becomeLike_65 : decode cX5_becomeLike 65 = .ok (.iload_n 2, 1) := by decide +kernel
theorem dX5_becomeLike_66 : decode cX5_becomeLike 66 = .ok (.aaload, 1) := by decide +kernel
theorem dX5_becomeLike_67 : decode cX5_becomeLike 67 = .ok (.aastore, 1) := by decide +kernel
theorem dX5_becomeLike_68 : decode cX5_becomeLike 68 = .ok (.iinc 2 1, 3) := by decide +kernel
theorem dX5_becomeLike_71 : decode cX5_becomeLike 71 = .ok (.goto (-21), 3) := by decide +kernel
theorem dX5_becomeLike_74 : decode cX5_becomeLike 74 = .ok (.aload_n 0, 1) := by decide +kernel
theorem dX5_becomeLike_75 : decode cX5_becomeLike 75 = .ok (.aload_n 1, 1) := by decide +kernel
theorem dX5_becomeLike_76 : decode cX5_becomeLike 76 = .ok (.getfield 37, 3) := by decide +kernel
theorem dX5_becomeLike_79 : decode cX5_becomeLike 79 = .ok (.putfield 37, 3) := by decide +kernel
theorem dX5_becomeLike_82 : decode cX5_becomeLike 82 = .ok (.iconst 0, 1) := by decide +kernel
theorem dX5_becomeLike_83 : decode cX5_becomeLike 83 = .ok (.istore_n 2, 1) := by decide +kernel
theorem dX5_becomeLike_84 : decode cX5_becomeLike 84 = .ok (.iload_n 2, 1) := by decide +kernel
theorem dX5_becomeLike_85 : decode cX5_becomeLike 85 = .ok (.bipush 8, 2) := by decide +kernel
theorem dX5_becomeLike_87 : decode cX5_becomeLike 87 = .ok (.if_icmp .ge 21, 3) := by decide +kernel
theorem dX5_becomeLike_90 : decode cX5_becomeLike 90 = .ok (.aload_n 0, 1) := by decide +kernel
theorem dX5_becomeLike_91 : decode cX5_becomeLike 91 = .ok (.getfield 42, 3) := by decide +kernel
theorem dX5_becomeLike_94 : decode cX5_becomeLike 94 = .ok (.iload_n 2, 1) := by decide +kernel
theorem dX5_becomeLike_95 : decode cX5_becomeLike 95 = .ok (.aload_n 1, 1) := by decide +kernel
theorem dX5_becomeLike_96 : decode cX5_becomeLike 96 = .ok (.getfield 42, 3) := by decide +kernel
theorem dX5_becomeLike_99 : decode cX5_becomeLike 99 = .ok (.iload_n 2, 1) := by decide +kernel
theorem dX5_becomeLike_100 : decode cX5_becomeLike 100 = .ok (.aaload, 1) := by decide +kernel
theorem dX5_becomeLike_101 : decode cX5_becomeLike 101 = .ok (.aastore, 1) := by decide +kernel
theorem dX5_becomeLike_102 : decode cX5_becomeLike 102 = .ok (.iinc 2 1, 3) := by decide +kernel
theorem dX5_becomeLike_105 : decode cX5_becomeLike 105 = .ok (.goto (-21), 3) := by decide +kernel
theorem dX5_becomeLike_108 : decode cX5_becomeLike 108 = .ok (.aload_n 0, 1) := by decide +kernel
theorem dX5_becomeLike_109 : decode cX5_becomeLike 109 = .ok (.aload_n 1, 1) := by decide +kernel
theorem dX5_becomeLike_110 : decode cX5_becomeLike 110 = .ok (.getfield 46, 3) := by decide +kernel
theorem dX5_becomeLike_113 : decode cX5_becomeLike 113 = .ok (.putfield 46, 3) := by decide +kernel
theorem dX5_becomeLike_116 : decode cX5_becomeLike 116 = .ok (.aload_n 0, 1) := by decide +kernel
theorem dX5_becomeLike_117 : decode cX5_becomeLike 117 = .ok (.getfield 52, 3) := by decide +kernel
theorem dX5_becomeLike_120 : decode cX5_becomeLike 120 = .ok (.aload_n 1, 1) := by decide +kernel
theorem dX5_becomeLike_121 : decode cX5_becomeLike 121 = .ok (.getfield 52, 3) := by decide +kernel
theorem dX5_becomeLike_124 : decode cX5_becomeLike 124 = .ok (.invokevirtual 72, 3) := by decide +kernel
theorem dX5_becomeLike_127 : decode cX5_becomeLike 127 = .ok (.aload_n 0, 1) := by decide +kernel
theorem dX5_becomeLike_128 : decode cX5_becomeLike 128 = .ok (.aload_n 1, 1) := by decide +kernel
theorem dX5_becomeLike_129 : decode cX5_becomeLike 129 = .ok (.getfield 56, 3) := by decide +kernel
theorem dX5_becomeLike_132 : decode cX5_becomeLike 132 = .ok (.putfield 56, 3) := by decide +kernel
theorem dX5_becomeLike_135 : decode cX5_becomeLike 135 = .ok (.aload_n 0, 1) := by decide +kernel
theorem dX5_becomeLike_136 : decode cX5_becomeLike 136 = .ok (.aload_n 1, 1) := by decide +kernel
theorem dX5_becomeLike_137 : decode cX5_becomeLike 137 = .ok (.getfield 59, 3) := by decide +kernel
theorem dX5_becomeLike_140 : decode cX5_becomeLike 140 = .ok (.putfield 59, 3) := by decide +kernel
theorem dX5_becomeLike_143 : decode cX5_becomeLike 143 = .ok (.aload_n 0, 1) := by decide +kernel
theorem dX5_becomeLike_144 : decode cX5_becomeLike 144 = .ok (.aload_n 1, 1) := by decide +kernel
theorem dX5_becomeLike_145 : decode cX5_becomeLike 145 = .ok (.getfield 62, 3) := by decide +kernel
theorem dX5_becomeLike_148 : decode cX5_becomeLike 148 = .ok (.putfield 62, 3) := by decide +kernel
theorem dX5_becomeLike_151 : decode cX5_becomeLike 151 = .ok (.aload_n 0, 1) := by decide +kernel
theorem dX5_becomeLike_152 : decode cX5_becomeLike 152 = .ok (.aload_n 1, 1) := by decide +kernel
theorem dX5_becomeLike_153 : decode cX5_becomeLike 153 = .ok (.getfield 65, 3) := by decide +kernel
theorem dX5_becomeLike_156 : decode cX5_becomeLike 156 = .ok (.putfield 65, 3) := by decide +kernel
theorem dX5_becomeLike_159 : decode cX5_becomeLike 159 = .ok (.return_, 1) := by decide +kernel
theorem dX5_tellLength_0 : decode cX5_tellLength 0 = .ok (.aload_n 0, 1) := by decide +kernel
theorem dX5_tellLength_1 : decode cX5_tellLength 1 = .ok (.iload_n 1, 1) := by decide +kernel
theorem dX5_tellLength_2 : decode cX5_tellLength 2 = .ok (.putfield 9, 3) := by decide +kernel
theorem dX5_tellLength_5 : decode cX5_tellLength 5 = .ok (.aload_n 0, 1) := by decide +kernel
theorem dX5_tellLength_6 : decode cX5_tellLength 6 = .ok (.iconst 0, 1) := by decide +kernel
theorem dX5_tellLength_7 : decode cX5_tellLength 7 = .ok (.putfield 37, 3) := by decide +kernel
theorem dX5_tellLength_10 : decode cX5_tellLength 10 = .ok (.aload_n 0, 1) := by decide +kernel
theorem dX5_tellLength_11 : decode cX5_tellLength 11 = .ok (.iconst 0, 1) := by decide +kernel
theorem dX5_tellLength_12 : decode cX5_tellLength 12 = .ok (.putfield 46, 3) := by decide +kernel
theorem dX5_tellLength_15 : decode cX5_tellLength 15 = .ok (.aload_n 0, 1) := by decide +kernel
theorem dX5_tellLength_16 : decode cX5_tellLength 16 = .ok (.iconst (-1), 1) := by decide +kernel
theorem dX5_tellLength_17 : decode cX5_tellLength 17 = .ok (.putfield 62, 3) := by decide +kernel
theorem dX5_tellLength_20 : decode cX5_tellLength 20 = .ok (.aload_n 0, 1) := by decide +kernel
theorem dX5_tellLength_21 : decode cX5_tellLength 21 = .ok (.invokevirtual 76, 3) := by decide +kernel
theorem dX5_tellLength_24 : decode cX5_tellLength 24 = .ok (.return_, 1) := by decide +kernel
theorem dX5_hasCell_0 : decode cX5_hasCell 0 = .ok (.iload_n 1, 1) := by decide +kernel
theorem dX5_hasCell_1 : decode cX5_hasCell 1 = .ok (.ifCond .lt 15, 3) := by decide +kernel
theorem dX5_hasCell_4 : decode cX5_hasCell 4 = .ok (.iload_n 1, 1) := by decide +kernel
theorem dX5_hasCell_5 : decode cX5_hasCell 5 = .ok (.aload_n 0, 1) := by decide +kernel
theorem dX5_hasCell_6 : decode cX5_hasCell 6 = .ok (.getfield 9, 3) := by decide +kernel
theorem dX5_hasCell_9 : decode cX5_hasCell 9 = .ok (.if_icmp .ge 7, 3) := by decide +kernel
theorem dX5_hasCell_12 : decode cX5_hasCell 12 = .ok (.iconst 1, 1) := by decide +kernel
theorem dX5_hasCell_13 : decode cX5_hasCell 13 = .ok (.goto 4, 3) := by decide +kernel
theorem dX5_hasCell_16 : decode cX5_hasCell 16 = .ok (.iconst 0, 1) := by decide +kernel
theorem dX5_hasCell_17 : decode cX5_hasCell 17 = .ok (.ireturn, 1) := by decide +kernel
theorem dX5_hasRoomForSign_0 : decode cX5_hasRoomForSign 0 = .ok (.aload_n 0, 1) := by decide +kernel
theorem dX5_hasRoomForSign_1 : decode cX5_hasRoomForSign 1 = .ok (.getfield 37, 3) := by decide +kernel
theorem dX5_hasRoomForSign_4 : decode cX5_hasRoomForSign 4 = .ok (.bipush 8, 2) := by decide +kernel
theorem dX5_hasRoomForSign_6 : decode cX5_hasRoomForSign 6 = .ok (.if_icmp .ge 7, 3) := by decide +kernel
theorem dX5_hasRoomForSign_9 : decode cX5_hasRoomForSign 9 = .ok (.iconst 1, 1) := by decide +kernel
theorem dX5_hasRoomForSign_10 : decode cX5_hasRoomForSign 10 = .ok (.goto 4, 3) := by decide +kernel
theorem dX5_hasRoomForSign_13 : decode cX5_hasRoomForSign 13 = .ok (.iconst 0, 1) := by decide +kernel
theorem dX5_hasRoomForSign_14 : decode cX5_hasRoomForSign 14 = .ok (.ireturn, 1) := by decide +kernel
theorem dX5_hasRoomForThing_0 : decode cX5_hasRoomForThing 0 = .ok (.aload_n 0, 1) := by decide +kernel
theorem dX5_hasRoomForThing_1 : decode cX5_hasRoomForThing 1 = .ok (.getfield 46, 3) := by decide +kernel
theorem dX5_hasRoomForThing_4 : decode cX5_hasRoomForThing 4 = .ok (.bipush 8, 2) := by decide +kernel
theorem dX5_hasRoomForThing_6 : decode cX5_hasRoomForThing 6 = .ok (.if_icmp .ge 7, 3) := by decide +kernel
theorem dX5_hasRoomForThing_9 : decode cX5_hasRoomForThing 9 = .ok (.iconst 1, 1) := by decide +kernel
theorem dX5_hasRoomForThing_10 : decode cX5_hasRoomForThing 10 = .ok (.goto 4, 3) := by decide +kernel
theorem dX5_hasRoomForThing_13 : decode cX5_hasRoomForThing 13 = .ok (.iconst 0, 1) := by decide +kernel
theorem dX5_hasRoomForThing_14 : decode cX5_hasRoomForThing 14 = .ok (.ireturn, 1) := by decide +kernel
theorem dX5_signAt_0 : decode cX5_signAt 0 = .ok (.iload_n 1, 1) := by decide +kernel
theorem dX5_signAt_1 : decode cX5_signAt 1 = .ok (.ifCond .lt 17, 3) := by decide +kernel
theorem dX5_signAt_4 : decode cX5_signAt 4 = .ok (.iload_n 1, 1) := by decide +kernel
theorem dX5_signAt_5 : decode cX5_signAt 5 = .ok (.aload_n 0, 1) := by decide +kernel
theorem dX5_signAt_6 : decode cX5_signAt 6 = .ok (.getfield 37, 3) := by decide +kernel
theorem dX5_signAt_9 : decode cX5_signAt 9 = .ok (.if_icmp .ge 9, 3) := by decide +kernel
theorem dX5_signAt_12 : decode cX5_signAt 12 = .ok (.iload_n 1, 1) := by decide +kernel
theorem dX5_signAt_13 : decode cX5_signAt 13 = .ok (.bipush 8, 2) := by decide +kernel
theorem dX5_signAt_15 : decode cX5_signAt 15 = .ok (.if_icmp .lt 7, 3) := by decide +kernel
theorem dX5_signAt_18 : decode cX5_signAt 18 = .ok (.aconst_null, 1) := by decide +kernel
theorem dX5_signAt_19 : decode cX5_signAt 19 = .ok (.goto 9, 3) := by decide +kernel
theorem dX5_signAt_22 : decode cX5_signAt 22 = .ok (.aload_n 0, 1) := by decide +kernel
theorem dX5_signAt_23 : decode cX5_signAt 23 = .ok (.getfield 33, 3) := by decide +kernel
theorem dX5_signAt_26 : decode cX5_signAt 26 = .ok (.iload_n 1, 1) := by decide +kernel
theorem dX5_signAt_27 : decode cX5_signAt 27 = .ok (.aaload, 1) := by decide +kernel
theorem dX5_signAt_28 : decode cX5_signAt 28 = .ok (.areturn, 1) := by decide +kernel
theorem dX5_thingAt_0 : decode cX5_thingAt 0 = .ok (.iload_n 1, 1) := by decide +kernel
theorem dX5_thingAt_1 : decode cX5_thingAt 1 = .ok (.ifCond .lt 17, 3) := by decide +kernel
theorem dX5_thingAt_4 : decode cX5_thingAt 4 = .ok (.iload_n 1, 1) := by decide +kernel
theorem dX5_thingAt_5 : decode cX5_thingAt 5 = .ok (.aload_n 0, 1) := by decide +kernel
theorem dX5_thingAt_6 : decode cX5_thingAt 6 = .ok (.getfield 46, 3) := by decide +kernel
theorem dX5_thingAt_9 : decode cX5_thingAt 9 = .ok (.if_icmp .ge 9, 3) := by decide +kernel
theorem dX5_thingAt_12 : decode cX5_thingAt 12 = .ok (.iload_n 1, 1) := by decide +kernel
theorem dX5_thingAt_13 : decode cX5_thingAt 13 = .ok (.bipush 8, 2) := by decide +kernel
theorem dX5_thingAt_15 : decode cX5_thingAt 15 = .ok (.if_icmp .lt 7, 3) := by decide +kernel
theorem dX5_thingAt_18 : decode cX5_thingAt 18 = .ok (.aconst_null, 1) := by decide +kernel
theorem dX5_thingAt_19 : decode cX5_thingAt 19 = .ok (.goto 9, 3) := by decide +kernel
theorem dX5_thingAt_22 : decode cX5_thingAt 22 = .ok (.aload_n 0, 1) := by decide +kernel
theorem dX5_thingAt_23 : decode cX5_thingAt 23 = .ok (.getfield 42, 3) := by decide +kernel
theorem dX5_thingAt_26 : decode cX5_thingAt 26 = .ok (.iload_n 1, 1) := by decide +kernel
theorem dX5_thingAt_27 : decode cX5_thingAt 27 = .ok (.aaload, 1) := by decide +kernel
theorem dX5_thingAt_28 : decode cX5_thingAt 28 = .ok (.areturn, 1) := by decide +kernel
theorem dX5_addSign_0 : decode cX5_addSign 0 = .ok (.aload_n 0, 1) := by decide +kernel
theorem dX5_addSign_1 : decode cX5_addSign 1 = .ok (.getfield 37, 3) := by decide +kernel
theorem dX5_addSign_4 : decode cX5_addSign 4 = .ok (.istore 5, 2) := by decide +kernel
theorem dX5_addSign_6 : decode cX5_addSign 6 = .ok (.iload 5, 2) := by decide +kernel
theorem dX5_addSign_8 : decode cX5_addSign 8 = .ok (.ifCond .lt 41, 3) := by decide +kernel
theorem dX5_addSign_11 : decode cX5_addSign 11 = .ok (.iload 5, 2) := by decide +kernel
theorem dX5_addSign_13 : decode cX5_addSign 13 = .ok (.bipush 8, 2) := by decide +kernel
theorem dX5_addSign_15 : decode cX5_addSign 15 = .ok (.if_icmp .ge 34, 3) := by decide +kernel
theorem dX5_addSign_18 : decode cX5_addSign 18 = .ok (.aload_n 0, 1) := by decide +kernel
theorem dX5_addSign_19 : decode cX5_addSign 19 = .ok (.getfield 33, 3) := by decide +kernel
theorem dX5_addSign_22 : decode cX5_addSign 22 = .ok (.iload 5, 2) := by decide +kernel
theorem dX5_addSign_24 : decode cX5_addSign 24 = .ok (.new 31, 3) := by decide +kernel
theorem dX5_addSign_27 : decode cX5_addSign 27 = .ok (.dup, 1) := by decide +kernel
theorem dX5_addSign_28 : decode cX5_addSign 28 = .ok (.iload 5, 2) := by decide +kernel
theorem dX5_addSign_30 : decode cX5_addSign 30 = .ok (.iload_n 1, 1) := by decide +kernel
theorem dX5_addSign_31 : decode cX5_addSign 31 = .ok (.iload_n 2, 1) := by decide +kernel
theorem dX5_addSign_32 : decode cX5_addSign 32 = .ok (.iload_n 3, 1) := by decide +kernel
theorem dX5_addSign_33 : decode cX5_addSign 33 = .ok (.iload 4, 2) := by decide +kernel
theorem dX5_addSign_35 : decode cX5_addSign 35 = .ok (.invokespecial 79, 3) := by decide +kernel
theorem dX5_addSign_38 : decode cX5_addSign 38 = .ok (.aastore, 1) := by decide +kernel
theorem dX5_addSign_39 : decode cX5_addSign 39 = .ok (.aload_n 0, 1) := by decide +kernel
theorem dX5_addSign_40 : decode cX5_addSign 40 = .ok (.dup, 1) := by decide +kernel
theorem dX5_addSign_41 : decode cX5_addSign 41 = .ok (.getfield 37, 3) := by decide +kernel
theorem dX5_addSign_44 : decode cX5_addSign 44 = .ok (.iconst 1, 1) := by decide +kernel
theorem dX5_addSign_45 : decode cX5_addSign 45 = .ok (.iadd, 1) := by decide +kernel
theorem dX5_addSign_46 : decode cX5_addSign 46 = .ok (.putfield 37, 3) := by decide +kernel
theorem dX5_addSign_49 : decode cX5_addSign 49 = .ok (.iload 5, 2) := by decide +kernel
theorem dX5_addSign_51 : decode cX5_addSign 51 = .ok (.ireturn, 1) := by decide +kernel
theorem dX5_addThing_0 : decode cX5_addThing 0 = .ok (.aload_n 0, 1) := by decide +kernel
theorem dX5_addThing_1 : decode cX5_addThing 1 = .ok (.getfield 46, 3) := by decide +kernel
theorem dX5_addThing_4 : decode cX5_addThing 4 = .ok (.istore 4, 2) := by decide +kernel
theorem dX5_addThing_6 : decode cX5_addThing 6 = .ok (.iload 4, 2) := by decide +kernel
theorem dX5_addThing_8 : decode cX5_addThing 8 = .ok (.ifCond .lt 37, 3) := by decide +kernel
theorem dX5_addThing_11 : decode cX5_addThing 11 = .ok (.iload 4, 2) := by decide +kernel
theorem dX5_addThing_13 : decode cX5_addThing 13 = .ok (.bipush 8, 2) := by decide +kernel
theorem dX5_addThing_15 : decode cX5_addThing 15 = .ok (.if_icmp .ge 30, 3) := by decide +kernel
theorem dX5_addThing_18 : decode cX5_addThing 18 = .ok (.aload_n 0, 1) := by decide +kernel
theorem dX5_addThing_19 : decode cX5_addThing 19 = .ok (.getfield 42, 3) := by decide +kernel
theorem dX5_addThing_22 : decode cX5_addThing 22 = .ok (.iload 4, 2) := by decide +kernel
theorem dX5_addThing_24 : decode cX5_addThing 24 = .ok (.new 40, 3) := by decide +kernel
theorem dX5_addThing_27 : decode cX5_addThing 27 = .ok (.dup, 1) := by decide +kernel
theorem dX5_addThing_28 : decode cX5_addThing 28 = .ok (.iload_n 1, 1) := by decide +kernel
theorem dX5_addThing_29 : decode cX5_addThing 29 = .ok (.iload_n 2, 1) := by decide +kernel
theorem dX5_addThing_30 : decode cX5_addThing 30 = .ok (.iload_n 3, 1) := by decide +kernel
theorem dX5_addThing_31 : decode cX5_addThing 31 = .ok (.invokespecial 82, 3) := by decide +kernel
theorem dX5_addThing_34 : decode cX5_addThing 34 = .ok (.aastore, 1) := by decide +kernel
theorem dX5_addThing_35 : decode cX5_addThing 35 = .ok (.aload_n 0, 1) := by decide +kernel
theorem dX5_addThing_36 : decode cX5_addThing 36 = .ok (.dup, 1) := by decide +kernel
theorem dX5_addThing_37 : decode cX5_addThing 37 = .ok (.getfield 46, 3) := by decide +kernel
theorem dX5_addThing_40 : decode cX5_addThing 40 = .ok (.iconst 1, 1) := by decide +kernel
theorem dX5_addThing_41 : decode cX5_addThing 41 = .ok (.iadd, 1) := by decide +kernel
theorem dX5_addThing_42 : decode cX5_addThing 42 = .ok (.putfield 46, 3) := by decide +kernel
theorem dX5_addThing_45 : decode cX5_addThing 45 = .ok (.iload 4, 2) := by decide +kernel
theorem dX5_addThing_47 : decode cX5_addThing 47 = .ok (.ireturn, 1) := by decide +kernel
theorem dX5_removeThing_0 : decode cX5_removeThing 0 = .ok (.iload_n 1, 1) := by decide +kernel
theorem dX5_removeThing_1 : decode cX5_removeThing 1 = .ok (.iconst 0, 1) := by decide +kernel
theorem dX5_removeThing_2 : decode cX5_removeThing 2 = .ok (.invokestatic 85, 3) := by decide +kernel
theorem dX5_removeThing_5 : decode cX5_removeThing 5 = .ok (.istore_n 2, 1) := by decide +kernel
theorem dX5_removeThing_6 : decode cX5_removeThing 6 = .ok (.iload_n 2, 1) := by decide +kernel
theorem dX5_removeThing_7 : decode cX5_removeThing 7 = .ok (.iconst 1, 1) := by decide +kernel
theorem dX5_removeThing_8 : decode cX5_removeThing 8 = .ok (.iadd, 1) := by decide +kernel
theorem dX5_removeThing_9 : decode cX5_removeThing 9 = .ok (.aload_n 0, 1) := by decide +kernel
theorem dX5_removeThing_10 : decode cX5_removeThing 10 = .ok (.getfield 46, 3) := by decide +kernel
theorem dX5_removeThing_13 : decode cX5_removeThing 13 = .ok (.if_icmp .ge 31, 3) := by decide +kernel
theorem dX5_removeThing_16 : decode cX5_removeThing 16 = .ok (.iload_n 2, 1) := by decide +kernel
theorem dX5_removeThing_17 : decode cX5_removeThing 17 = .ok (.iconst 1, 1) := by decide +kernel
theorem dX5_removeThing_18 : decode cX5_removeThing 18 = .ok (.iadd, 1) := by decide +kernel
theorem dX5_removeThing_19 : decode cX5_removeThing 19 = .ok (.bipush 8, 2) := by decide +kernel
theorem dX5_removeThing_21 : decode cX5_removeThing 21 = .ok (.if_icmp .ge 23, 3) := by decide +kernel
theorem dX5_removeThing_24 : decode cX5_removeThing 24 = .ok (.aload_n 0, 1) := by decide +kernel
theorem dX5_removeThing_25 : decode cX5_removeThing 25 = .ok (.getfield 42, 3) := by decide +kernel
theorem dX5_removeThing_28 : decode cX5_removeThing 28 = .ok (.iload_n 2, 1) := by decide +kernel
theorem dX5_removeThing_29 : decode cX5_removeThing 29 = .ok (.aload_n 0, 1) := by decide +kernel
theorem dX5_removeThing_30 : decode cX5_removeThing 30 = .ok (.getfield 42, 3) := by decide +kernel
theorem dX5_removeThing_33 : decode cX5_removeThing 33 = .ok (.iload_n 2, 1) := by decide +kernel
theorem dX5_removeThing_34 : decode cX5_removeThing 34 = .ok (.iconst 1, 1) := by decide +kernel
theorem dX5_removeThing_35 : decode cX5_removeThing 35 = .ok (.iadd, 1) := by decide +kernel
theorem dX5_removeThing_36 : decode cX5_removeThing 36 = .ok (.aaload, 1) := by decide +kernel
theorem dX5_removeThing_37 : decode cX5_removeThing 37 = .ok (.aastore, 1) := by decide +kernel
theorem dX5_removeThing_38 : decode cX5_removeThing 38 = .ok (.iinc 2 1, 3) := by decide +kernel
theorem dX5_removeThing_41 : decode cX5_removeThing 41 = .ok (.goto (-35), 3) := by decide +kernel
theorem dX5_removeThing_44 : decode cX5_removeThing 44 = .ok (.aload_n 0, 1) := by decide +kernel
theorem dX5_removeThing_45 : decode cX5_removeThing 45 = .ok (.dup, 1) := by decide +kernel
theorem dX5_removeThing_46 : decode cX5_removeThing 46 = .ok (.getfield 46, 3) := by decide +kernel
theorem dX5_removeThing_49 : decode cX5_removeThing 49 = .ok (.iconst 1, 1) := by decide +kernel
theorem dX5_removeThing_50 : decode cX5_removeThing 50 = .ok (.isub, 1) := by decide +kernel
theorem dX5_removeThing_51 : decode cX5_removeThing 51 = .ok (.putfield 46, 3) := by decide +kernel
theorem dX5_removeThing_54 : decode cX5_removeThing 54 = .ok (.return_, 1) := by decide +kernel
theorem dX5_reach_0 : decode cX5_reach 0 = .ok (.iconst 0, 1) := by decide +kernel
theorem dX5_reach_1 : decode cX5_reach 1 = .ok (.aload_n 0, 1) := by decide +kernel
theorem dX5_reach_2 : decode cX5_reach 2 = .ok (.getfield 9, 3) := by decide +kernel
theorem dX5_reach_5 : decode cX5_reach 5 = .ok (.iconst 1, 1) := by decide +kernel
theorem dX5_reach_6 : decode cX5_reach 6 = .ok (.isub, 1) := by decide +kernel
theorem dX5_reach_7 : decode cX5_reach 7 = .ok (.iload_n 1, 1) := by decide +kernel
theorem dX5_reach_8 : decode cX5_reach 8 = .ok (.iload_n 2, 1) := by decide +kernel
theorem dX5_reach_9 : decode cX5_reach 9 = .ok (.iadd, 1) := by decide +kernel
theorem dX5_reach_10 : decode cX5_reach 10 = .ok (.invokestatic 91, 3) := by decide +kernel
theorem dX5_reach_13 : decode cX5_reach 13 = .ok (.invokestatic 85, 3) := by decide +kernel
theorem dX5_reach_16 : decode cX5_reach 16 = .ok (.ireturn, 1) := by decide +kernel
theorem dX5_otherCellOf_0 : decode cX5_otherCellOf 0 = .ok (.aload_n 0, 1) := by decide +kernel
theorem dX5_otherCellOf_1 : decode cX5_otherCellOf 1 = .ok (.getfield 9, 3) := by decide +kernel
theorem dX5_otherCellOf_4 : decode cX5_otherCellOf 4 = .ok (.ifCond .le 15, 3) := by decide +kernel
theorem dX5_otherCellOf_7 : decode cX5_otherCellOf 7 = .ok (.aload_n 1, 1) := by decide +kernel
theorem dX5_otherCellOf_8 : decode cX5_otherCellOf 8 = .ok (.getfield 94, 3) := by decide +kernel
theorem dX5_otherCellOf_11 : decode cX5_otherCellOf 11 = .ok (.aload_n 0, 1) := by decide +kernel
theorem dX5_otherCellOf_12 : decode cX5_otherCellOf 12 = .ok (.getfield 9, 3) := by decide +kernel
theorem dX5_otherCellOf_15 : decode cX5_otherCellOf 15 = .ok (.irem, 1) := by decide +kernel
theorem dX5_otherCellOf_16 : decode cX5_otherCellOf 16 = .ok (.goto 4, 3) := by decide +kernel
theorem dX5_otherCellOf_19 : decode cX5_otherCellOf 19 = .ok (.iconst (-1), 1) := by decide +kernel
theorem dX5_otherCellOf_20 : decode cX5_otherCellOf 20 = .ok (.ireturn, 1) := by decide +kernel
theorem dX5_tenthsOf_0 : decode cX5_tenthsOf 0 = .ok (.iload_n 2, 1) := by decide +kernel
theorem dX5_tenthsOf_1 : decode cX5_tenthsOf 1 = .ok (.aload_n 1, 1) := by decide +kernel
theorem dX5_tenthsOf_2 : decode cX5_tenthsOf 2 = .ok (.getfield 97, 3) := by decide +kernel
theorem dX5_tenthsOf_5 : decode cX5_tenthsOf 5 = .ok (.if_icmp .ne 10, 3) := by decide +kernel
theorem dX5_tenthsOf_8 : decode cX5_tenthsOf 8 = .ok (.aload_n 1, 1) := by decide +kernel
theorem dX5_tenthsOf_9 : decode cX5_tenthsOf 9 = .ok (.getfield 100, 3) := by decide +kernel
theorem dX5_tenthsOf_12 : decode cX5_tenthsOf 12 = .ok (.goto 4, 3) := by decide +kernel
theorem dX5_tenthsOf_15 : decode cX5_tenthsOf 15 = .ok (.iconst 0, 1) := by decide +kernel
theorem dX5_tenthsOf_16 : decode cX5_tenthsOf 16 = .ok (.istore_n 3, 1) := by decide +kernel
theorem dX5_tenthsOf_17 : decode cX5_tenthsOf 17 = .ok (.aload_n 1, 1) := by decide +kernel
theorem dX5_tenthsOf_18 : decode cX5_tenthsOf 18 = .ok (.getfield 103, 3) := by decide +kernel
theorem dX5_tenthsOf_21 : decode cX5_tenthsOf 21 = .ok (.tableswitch 147 1 6 #[39, 96, 102, 52, 127, 67], 39) := by decide +kernel
theorem dX5_tenthsOf_60 : decode cX5_tenthsOf 60 = .ok (.aload_n 0, 1) := by decide +kernel
theorem dX5_tenthsOf_61 : decode cX5_tenthsOf 61 = .ok (.getfield 24, 3) := by decide +kernel
theorem dX5_tenthsOf_64 : decode cX5_tenthsOf 64 = .ok (.ifCond .eq 7, 3) := by decide +kernel
theorem dX5_tenthsOf_67 : decode cX5_tenthsOf 67 = .ok (.iconst 0, 1) := by decide +kernel
theorem dX5_tenthsOf_68 : decode cX5_tenthsOf 68 = .ok (.goto 4, 3) := by decide +kernel
theorem dX5_tenthsOf_71 : decode cX5_tenthsOf 71 = .ok (.iload_n 3, 1) := by decide +kernel
theorem dX5_tenthsOf_72 : decode cX5_tenthsOf 72 = .ok (.ireturn, 1) := by decide +kernel
theorem dX5_tenthsOf_73 : decode cX5_tenthsOf 73 = .ok (.aload_n 0, 1) := by decide +kernel
theorem dX5_tenthsOf_74 : decode cX5_tenthsOf 74 = .ok (.getfield 24, 3) := by decide +kernel
theorem dX5_tenthsOf_77 : decode cX5_tenthsOf 77 = .ok (.ifCond .eq 9, 3) := by decide +kernel
theorem dX5_tenthsOf_80 : decode cX5_tenthsOf 80 = .ok (.iload_n 3, 1) := by decide +kernel
theorem dX5_tenthsOf_81 : decode cX5_tenthsOf 81 = .ok (.iconst 2, 1) := by decide +kernel
theorem dX5_tenthsOf_82 : decode cX5_tenthsOf 82 = .ok (.idiv, 1) := by decide +kernel
theorem dX5_tenthsOf_83 : decode cX5_tenthsOf 83 = .ok (.goto 4, 3) := by decide +kernel
theorem dX5_tenthsOf_86 : decode cX5_tenthsOf 86 = .ok (.iload_n 3, 1) := by decide +kernel
theorem dX5_tenthsOf_87 : decode cX5_tenthsOf 87 = .ok (.ireturn, 1) := by decide +kernel
theorem dX5_tenthsOf_88 : decode cX5_tenthsOf 88 = .ok (.aload_n 0, 1) := by decide +kernel
theorem dX5_tenthsOf_89 : decode cX5_tenthsOf 89 = .ok (.getfield 24, 3) := by decide +kernel
theorem dX5_tenthsOf_92 : decode cX5_tenthsOf 92 = .ok (.ifCond .eq 7, 3) := by decide +kernel
theorem dX5_tenthsOf_95 : decode cX5_tenthsOf 95 = .ok (.iconst 0, 1) := by decide +kernel
theorem dX5_tenthsOf_96 : decode cX5_tenthsOf 96 = .ok (.goto 20, 3) := by decide +kernel
theorem dX5_tenthsOf_99 : decode cX5_tenthsOf 99 = .ok (.iload_n 2, 1) := by decide +kernel
theorem dX5_tenthsOf_100 : decode cX5_tenthsOf 100 = .ok (.aload_n 0, 1) := by decide +kernel
theorem dX5_tenthsOf_101 : decode cX5_tenthsOf 101 = .ok (.aload_n 1, 1) := by decide +kernel
theorem dX5_tenthsOf_102 : decode cX5_tenthsOf 102 = .ok (.invokevirtual 106, 3) := by decide +kernel
theorem dX5_tenthsOf_105 : decode cX5_tenthsOf 105 = .ok (.if_icmp .ne 10, 3) := by decide +kernel
theorem dX5_tenthsOf_108 : decode cX5_tenthsOf 108 = .ok (.aload_n 1, 1) := by decide +kernel
theorem dX5_tenthsOf_109 : decode cX5_tenthsOf 109 = .ok (.getfield 100, 3) := by decide +kernel
theorem dX5_tenthsOf_112 : decode cX5_tenthsOf 112 = .ok (.goto 4, 3) := by decide +kernel
theorem dX5_tenthsOf_115 : decode cX5_tenthsOf 115 = .ok (.iload_n 3, 1) := by decide +kernel
theorem dX5_tenthsOf_116 : decode cX5_tenthsOf 116 = .ok (.ireturn, 1) := by decide +kernel
theorem dX5_tenthsOf_117 : decode cX5_tenthsOf 117 = .ok (.aload_n 1, 1) := by decide +kernel
theorem dX5_tenthsOf_118 : decode cX5_tenthsOf 118 = .ok (.iload_n 2, 1) := by decide +kernel
theorem dX5_tenthsOf_119 : decode cX5_tenthsOf 119 = .ok (.invokestatic 110, 3) := by decide +kernel
theorem dX5_tenthsOf_122 : decode cX5_tenthsOf 122 = .ok (.ireturn, 1) := by decide +kernel
theorem dX5_tenthsOf_123 : decode cX5_tenthsOf 123 = .ok (.aload_n 1, 1) := by decide +kernel
theorem dX5_tenthsOf_124 : decode cX5_tenthsOf 124 = .ok (.getfield 94, 3) := by decide +kernel
theorem dX5_tenthsOf_127 : decode cX5_tenthsOf 127 = .ok (.aload_n 0, 1) := by decide +kernel
theorem dX5_tenthsOf_128 : decode cX5_tenthsOf 128 = .ok (.getfield 21, 3) := by decide +kernel
theorem dX5_tenthsOf_131 : decode cX5_tenthsOf 131 = .ok (.ishr, 1) := by decide +kernel
theorem dX5_tenthsOf_132 : decode cX5_tenthsOf 132 = .ok (.iconst 1, 1) := by decide +kernel
theorem dX5_tenthsOf_133 : decode cX5_tenthsOf 133 = .ok (.iand, 1) := by decide +kernel
theorem dX5_tenthsOf_134 : decode cX5_tenthsOf 134 = .ok (.iconst 1, 1) := by decide +kernel
theorem dX5_tenthsOf_135 : decode cX5_tenthsOf 135 = .ok (.if_icmp .ne 11, 3) := by decide +kernel
theorem dX5_tenthsOf_138 : decode cX5_tenthsOf 138 = .ok (.aload_n 1, 1) := by decide +kernel
theorem dX5_tenthsOf_139 : decode cX5_tenthsOf 139 = .ok (.iload_n 2, 1) := by decide +kernel
theorem dX5_tenthsOf_140 : decode cX5_tenthsOf 140 = .ok (.invokestatic 110, 3) := by decide +kernel
theorem dX5_tenthsOf_143 : decode cX5_tenthsOf 143 = .ok (.goto 4, 3) := by decide +kernel
theorem dX5_tenthsOf_146 : decode cX5_tenthsOf 146 = .ok (.iconst 0, 1) := by decide +kernel
theorem dX5_tenthsOf_147 : decode cX5_tenthsOf 147 = .ok (.ireturn, 1) := by decide +kernel
theorem dX5_tenthsOf_148 : decode cX5_tenthsOf 148 = .ok (.aload_n 0, 1) := by decide +kernel
theorem dX5_tenthsOf_149 : decode cX5_tenthsOf 149 = .ok (.getfield 56, 3) := by decide +kernel
theorem dX5_tenthsOf_152 : decode cX5_tenthsOf 152 = .ok (.aload_n 1, 1) := by decide +kernel
theorem dX5_tenthsOf_153 : decode cX5_tenthsOf 153 = .ok (.getfield 94, 3) := by decide +kernel
theorem dX5_tenthsOf_156 : decode cX5_tenthsOf 156 = .ok (.if_icmp .ne 10, 3) := by decide +kernel
theorem dX5_tenthsOf_159 : decode cX5_tenthsOf 159 = .ok (.aload_n 1, 1) := by decide +kernel
theorem dX5_tenthsOf_160 : decode cX5_tenthsOf 160 = .ok (.getfield 100, 3) := by decide +kernel
theorem dX5_tenthsOf_163 : decode cX5_tenthsOf 163 = .ok (.goto 4, 3) := by decide +kernel
theorem dX5_tenthsOf_166 : decode cX5_tenthsOf 166 = .ok (.iconst 0, 1) := by decide +kernel
theorem dX5_tenthsOf_167 : decode cX5_tenthsOf 167 = .ok (.ireturn, 1) := by decide +kernel
theorem dX5_tenthsOf_168 : decode cX5_tenthsOf 168 = .ok (.iload_n 3, 1) := by decide +kernel
theorem dX5_tenthsOf_169 : decode cX5_tenthsOf 169 = .ok (.ireturn, 1) := by decide +kernel
theorem dX5_loudness_0 : decode cX5_loudness 0 = .ok (.iload_n 1, 1) := by decide +kernel
theorem dX5_loudness_1 : decode cX5_loudness 1 = .ok (.aload_n 0, 1) := by decide +kernel
theorem dX5_loudness_2 : decode cX5_loudness 2 = .ok (.getfield 97, 3) := by decide +kernel
theorem dX5_loudness_5 : decode cX5_loudness 5 = .ok (.isub, 1) := by decide +kernel
theorem dX5_loudness_6 : decode cX5_loudness 6 = .ok (.invokestatic 114, 3) := by decide +kernel
theorem dX5_loudness_9 : decode cX5_loudness 9 = .ok (.istore_n 2, 1) := by decide +kernel
theorem dX5_loudness_10 : decode cX5_loudness 10 = .ok (.iload_n 2, 1) := by decide +kernel
theorem dX5_loudness_11 : decode cX5_loudness 11 = .ok (.ifCond .ne 10, 3) := by decide +kernel
theorem dX5_loudness_14 : decode cX5_loudness 14 = .ok (.aload_n 0, 1) := by decide +kernel
theorem dX5_loudness_15 : decode cX5_loudness 15 = .ok (.getfield 100, 3) := by decide +kernel
theorem dX5_loudness_18 : decode cX5_loudness 18 = .ok (.goto 18, 3) := by decide +kernel
theorem dX5_loudness_21 : decode cX5_loudness 21 = .ok (.iload_n 2, 1) := by decide +kernel
theorem dX5_loudness_22 : decode cX5_loudness 22 = .ok (.iconst 1, 1) := by decide +kernel
theorem dX5_loudness_23 : decode cX5_loudness 23 = .ok (.if_icmp .ne 12, 3) := by decide +kernel
theorem dX5_loudness_26 : decode cX5_loudness 26 = .ok (.aload_n 0, 1) := by decide +kernel
theorem dX5_loudness_27 : decode cX5_loudness 27 = .ok (.getfield 100, 3) := by decide +kernel
theorem dX5_loudness_30 : decode cX5_loudness 30 = .ok (.iconst 2, 1) := by decide +kernel
theorem dX5_loudness_31 : decode cX5_loudness 31 = .ok (.idiv, 1) := by decide +kernel
theorem dX5_loudness_32 : decode cX5_loudness 32 = .ok (.goto 4, 3) := by decide +kernel
theorem dX5_loudness_35 : decode cX5_loudness 35 = .ok (.iconst 0, 1) := by decide +kernel
theorem dX5_loudness_36 : decode cX5_loudness 36 = .ok (.ireturn, 1) := by decide +kernel
theorem dX5_saidBy_0 : decode cX5_saidBy 0 = .ok (.iload_n 2, 1) := by decide +kernel
theorem dX5_saidBy_1 : decode cX5_saidBy 1 = .ok (.tableswitch 84 1 6 #[39, 49, 56, 39, 64, 78], 39) := by decide +kernel
theorem dX5_saidBy_40 : decode cX5_saidBy 40 = .ok (.aload_n 0, 1) := by decide +kernel
theorem dX5_saidBy_41 : decode cX5_saidBy 41 = .ok (.aload_n 1, 1) := by decide +kernel
theorem dX5_saidBy_42 : decode cX5_saidBy 42 = .ok (.aload_n 1, 1) := by decide +kernel
theorem dX5_saidBy_43 : decode cX5_saidBy 43 = .ok (.getfield 97, 3) := by decide +kernel
theorem dX5_saidBy_46 : decode cX5_saidBy 46 = .ok (.invokevirtual 118, 3) := by decide +kernel
theorem dX5_saidBy_49 : decode cX5_saidBy 49 = .ok (.ireturn, 1) := by decide +kernel
theorem dX5_saidBy_50 : decode cX5_saidBy 50 = .ok (.aload_n 1, 1) := by decide +kernel
theorem dX5_saidBy_51 : decode cX5_saidBy 51 = .ok (.getfield 100, 3) := by decide +kernel
theorem dX5_saidBy_54 : decode cX5_saidBy 54 = .ok (.iconst 2, 1) := by decide +kernel
theorem dX5_saidBy_55 : decode cX5_saidBy 55 = .ok (.idiv, 1) := by decide +kernel
theorem dX5_saidBy_56 : decode cX5_saidBy 56 = .ok (.ireturn, 1) := by decide +kernel
theorem dX5_saidBy_57 : decode cX5_saidBy 57 = .ok (.aload_n 1, 1) := by decide +kernel
theorem dX5_saidBy_58 : decode cX5_saidBy 58 = .ok (.getfield 94, 3) := by decide +kernel
theorem dX5_saidBy_61 : decode cX5_saidBy 61 = .ok (.invokestatic 121, 3) := by decide +kernel
theorem dX5_saidBy_64 : decode cX5_saidBy 64 = .ok (.ireturn, 1) := by decide +kernel
theorem dX5_saidBy_65 : decode cX5_saidBy 65 = .ok (.iconst 0, 1) := by decide +kernel
theorem dX5_saidBy_66 : decode cX5_saidBy 66 = .ok (.aload_n 1, 1) := by decide +kernel
theorem dX5_saidBy_67 : decode cX5_saidBy 67 = .ok (.getfield 94, 3) := by decide +kernel
theorem dX5_saidBy_70 : decode cX5_saidBy 70 = .ok (.aload_n 0, 1) := by decide +kernel
theorem dX5_saidBy_71 : decode cX5_saidBy 71 = .ok (.getfield 56, 3) := by decide +kernel
theorem dX5_saidBy_74 : decode cX5_saidBy 74 = .ok (.isub, 1) := by decide +kernel
theorem dX5_saidBy_75 : decode cX5_saidBy 75 = .ok (.invokestatic 85, 3) := by decide +kernel
theorem dX5_saidBy_78 : decode cX5_saidBy 78 = .ok (.ireturn, 1) := by decide +kernel
theorem dX5_saidBy_79 : decode cX5_saidBy 79 = .ok (.aload_n 0, 1) := by decide +kernel
theorem dX5_saidBy_80 : decode cX5_saidBy 80 = .ok (.aload_n 1, 1) := by decide +kernel
theorem dX5_saidBy_81 : decode cX5_saidBy 81 = .ok (.invokevirtual 106, 3) := by decide +kernel
theorem dX5_saidBy_84 : decode cX5_saidBy 84 = .ok (.ireturn, 1) := by decide +kernel
theorem dX5_saidBy_85 : decode cX5_saidBy 85 = .ok (.aload_n 1, 1) := by decide +kernel
theorem dX5_saidBy_86 : decode cX5_saidBy 86 = .ok (.getfield 100, 3) := by decide +kernel
theorem dX5_saidBy_89 : decode cX5_saidBy 89 = .ok (.ireturn, 1) := by decide +kernel
theorem dX5_knowNothing_0 : decode cX5_knowNothing 0 = .ok (.aload_n 0, 1) := by decide +kernel
theorem dX5_knowNothing_1 : decode cX5_knowNothing 1 = .ok (.getfield 52, 3) := by decide +kernel
theorem dX5_knowNothing_4 : decode cX5_knowNothing 4 = .ok (.aload_n 0, 1) := by decide +kernel
theorem dX5_knowNothing_5 : decode cX5_knowNothing 5 = .ok (.getfield 9, 3) := by decide +kernel
theorem dX5_knowNothing_8 : decode cX5_knowNothing 8 = .ok (.invokevirtual 68, 3) := by decide +kernel
theorem dX5_knowNothing_11 : decode cX5_knowNothing 11 = .ok (.aload_n 0, 1) := by decide +kernel
theorem dX5_knowNothing_12 : decode cX5_knowNothing 12 = .ok (.iconst 0, 1) := by decide +kernel
theorem dX5_knowNothing_13 : decode cX5_knowNothing 13 = .ok (.putfield 59, 3) := by decide +kernel
theorem dX5_knowNothing_16 : decode cX5_knowNothing 16 = .ok (.aload_n 0, 1) := by decide +kernel
theorem dX5_knowNothing_17 : decode cX5_knowNothing 17 = .ok (.iconst 0, 1) := by decide +kernel
theorem dX5_knowNothing_18 : decode cX5_knowNothing 18 = .ok (.putfield 56, 3) := by decide +kernel
theorem dX5_knowNothing_21 : decode cX5_knowNothing 21 = .ok (.return_, 1) := by decide +kernel
theorem dX5_knowCell_0 : decode cX5_knowCell 0 = .ok (.aload_n 0, 1) := by decide +kernel
theorem dX5_knowCell_1 : decode cX5_knowCell 1 = .ok (.getfield 52, 3) := by decide +kernel
theorem dX5_knowCell_4 : decode cX5_knowCell 4 = .ok (.iload_n 1, 1) := by decide +kernel
theorem dX5_knowCell_5 : decode cX5_knowCell 5 = .ok (.invokevirtual 126, 3) := by decide +kernel
theorem dX5_knowCell_8 : decode cX5_knowCell 8 = .ok (.aload_n 0, 1) := by decide +kernel
theorem dX5_knowCell_9 : decode cX5_knowCell 9 = .ok (.iconst 0, 1) := by decide +kernel
theorem dX5_knowCell_10 : decode cX5_knowCell 10 = .ok (.putfield 59, 3) := by decide +kernel
theorem dX5_knowCell_13 : decode cX5_knowCell 13 = .ok (.aload_n 0, 1) := by decide +kernel
theorem dX5_knowCell_14 : decode cX5_knowCell 14 = .ok (.iconst 0, 1) := by decide +kernel
theorem dX5_knowCell_15 : decode cX5_knowCell 15 = .ok (.putfield 56, 3) := by decide +kernel
theorem dX5_knowCell_18 : decode cX5_knowCell 18 = .ok (.return_, 1) := by decide +kernel
theorem dX5_hearStep_0 : decode cX5_hearStep 0 = .ok (.iload_n 1, 1) := by decide +kernel
theorem dX5_hearStep_1 : decode cX5_hearStep 1 = .ok (.ifCond .eq 7, 3) := by decide +kernel
theorem dX5_hearStep_4 : decode cX5_hearStep 4 = .ok (.iconst (-1), 1) := by decide +kernel
theorem dX5_hearStep_5 : decode cX5_hearStep 5 = .ok (.goto 4, 3) := by decide +kernel
theorem dX5_hearStep_8 : decode cX5_hearStep 8 = .ok (.iconst 1, 1) := by decide +kernel
theorem dX5_hearStep_9 : decode cX5_hearStep 9 = .ok (.istore_n 2, 1) := by decide +kernel
theorem dX5_hearStep_10 : decode cX5_hearStep 10 = .ok (.iconst 0, 1) := by decide +kernel
theorem dX5_hearStep_11 : decode cX5_hearStep 11 = .ok (.istore_n 3, 1) := by decide +kernel
theorem dX5_hearStep_12 : decode cX5_hearStep 12 = .ok (.iload_n 3, 1) := by decide +kernel
theorem dX5_hearStep_13 : decode cX5_hearStep 13 = .ok (.aload_n 0, 1) := by decide +kernel
theorem dX5_hearStep_14 : decode cX5_hearStep 14 = .ok (.getfield 9, 3) := by decide +kernel
theorem dX5_hearStep_17 : decode cX5_hearStep 17 = .ok (.if_icmp .ge 68, 3) := by decide +kernel
theorem dX5_hearStep_20 : decode cX5_hearStep 20 = .ok (.aload_n 0, 1) := by decide +kernel
theorem dX5_hearStep_21 : decode cX5_hearStep 21 = .ok (.getfield 52, 3) := by decide +kernel
theorem dX5_hearStep_24 : decode cX5_hearStep 24 = .ok (.iload_n 3, 1) := by decide +kernel
theorem dX5_hearStep_25 : decode cX5_hearStep 25 = .ok (.iload_n 3, 1) := by decide +kernel
theorem dX5_hearStep_26 : decode cX5_hearStep 26 = .ok (.aload_n 0, 1) := by decide +kernel
theorem dX5_hearStep_27 : decode cX5_hearStep 27 = .ok (.getfield 15, 3) := by decide +kernel
theorem dX5_hearStep_30 : decode cX5_hearStep 30 = .ok (.invokevirtual 129, 3) := by decide +kernel
theorem dX5_hearStep_33 : decode cX5_hearStep 33 = .ok (.aload_n 0, 1) := by decide +kernel
theorem dX5_hearStep_34 : decode cX5_hearStep 34 = .ok (.getfield 52, 3) := by decide +kernel
theorem dX5_hearStep_37 : decode cX5_hearStep 37 = .ok (.iload_n 3, 1) := by decide +kernel
theorem dX5_hearStep_38 : decode cX5_hearStep 38 = .ok (.aload_n 0, 1) := by decide +kernel
theorem dX5_hearStep_39 : decode cX5_hearStep 39 = .ok (.iload_n 3, 1) := by decide +kernel
theorem dX5_hearStep_40 : decode cX5_hearStep 40 = .ok (.iload_n 2, 1) := by decide +kernel
theorem dX5_hearStep_41 : decode cX5_hearStep 41 = .ok (.invokevirtual 133, 3) := by decide +kernel
theorem dX5_hearStep_44 : decode cX5_hearStep 44 = .ok (.bipush 10, 2) := by decide +kernel
theorem dX5_hearStep_46 : decode cX5_hearStep 46 = .ok (.aload_n 0, 1) := by decide +kernel
theorem dX5_hearStep_47 : decode cX5_hearStep 47 = .ok (.getfield 15, 3) := by decide +kernel
theorem dX5_hearStep_50 : decode cX5_hearStep 50 = .ok (.isub, 1) := by decide +kernel
theorem dX5_hearStep_51 : decode cX5_hearStep 51 = .ok (.aload_n 0, 1) := by decide +kernel
theorem dX5_hearStep_52 : decode cX5_hearStep 52 = .ok (.getfield 18, 3) := by decide +kernel
theorem dX5_hearStep_55 : decode cX5_hearStep 55 = .ok (.isub, 1) := by decide +kernel
theorem dX5_hearStep_56 : decode cX5_hearStep 56 = .ok (.invokevirtual 129, 3) := by decide +kernel
theorem dX5_hearStep_59 : decode cX5_hearStep 59 = .ok (.aload_n 0, 1) := by decide +kernel
theorem dX5_hearStep_60 : decode cX5_hearStep 60 = .ok (.getfield 52, 3) := by decide +kernel
theorem dX5_hearStep_63 : decode cX5_hearStep 63 = .ok (.iload_n 3, 1) := by decide +kernel
theorem dX5_hearStep_64 : decode cX5_hearStep 64 = .ok (.aload_n 0, 1) := by decide +kernel
theorem dX5_hearStep_65 : decode cX5_hearStep 65 = .ok (.iload_n 3, 1) := by decide +kernel
theorem dX5_hearStep_66 : decode cX5_hearStep 66 = .ok (.iconst 2, 1) := by decide +kernel
theorem dX5_hearStep_67 : decode cX5_hearStep 67 = .ok (.iload_n 2, 1) := by decide +kernel
theorem dX5_hearStep_68 : decode cX5_hearStep 68 = .ok (.imul, 1) := by decide +kernel
theorem dX5_hearStep_69 : decode cX5_hearStep 69 = .ok (.invokevirtual 133, 3) := by decide +kernel
theorem dX5_hearStep_72 : decode cX5_hearStep 72 = .ok (.aload_n 0, 1) := by decide +kernel
theorem dX5_hearStep_73 : decode cX5_hearStep 73 = .ok (.getfield 18, 3) := by decide +kernel
theorem dX5_hearStep_76 : decode cX5_hearStep 76 = .ok (.invokevirtual 129, 3) := by decide +kernel
theorem dX5_hearStep_79 : decode cX5_hearStep 79 = .ok (.iinc 3 1, 3) := by decide +kernel
theorem dX5_hearStep_82 : decode cX5_hearStep 82 = .ok (.goto (-70), 3) := by decide +kernel
theorem dX5_hearStep_85 : decode cX5_hearStep 85 = .ok (.aload_n 0, 1) := by decide +kernel
theorem dX5_hearStep_86 : decode cX5_hearStep 86 = .ok (.getfield 52, 3) := by decide +kernel
theorem dX5_hearStep_89 : decode cX5_hearStep 89 = .ok (.invokevirtual 136, 3) := by decide +kernel
theorem dX5_hearStep_92 : decode cX5_hearStep 92 = .ok (.aload_n 0, 1) := by decide +kernel
theorem dX5_hearStep_93 : decode cX5_hearStep 93 = .ok (.getfield 52, 3) := by decide +kernel
theorem dX5_hearStep_96 : decode cX5_hearStep 96 = .ok (.invokevirtual 139, 3) := by decide +kernel
theorem dX5_hearStep_99 : decode cX5_hearStep 99 = .ok (.aload_n 0, 1) := by decide +kernel
theorem dX5_hearStep_100 : decode cX5_hearStep 100 = .ok (.dup, 1) := by decide +kernel
theorem dX5_hearStep_101 : decode cX5_hearStep 101 = .ok (.getfield 56, 3) := by decide +kernel
theorem dX5_hearStep_104 : decode cX5_hearStep 104 = .ok (.iconst 1, 1) := by decide +kernel
theorem dX5_hearStep_105 : decode cX5_hearStep 105 = .ok (.iadd, 1) := by decide +kernel
theorem dX5_hearStep_106 : decode cX5_hearStep 106 = .ok (.putfield 56, 3) := by decide +kernel
theorem dX5_hearStep_109 : decode cX5_hearStep 109 = .ok (.aload_n 0, 1) := by decide +kernel
theorem dX5_hearStep_110 : decode cX5_hearStep 110 = .ok (.dup, 1) := by decide +kernel
theorem dX5_hearStep_111 : decode cX5_hearStep 111 = .ok (.getfield 59, 3) := by decide +kernel
theorem dX5_hearStep_114 : decode cX5_hearStep 114 = .ok (.iconst 1, 1) := by decide +kernel
theorem dX5_hearStep_115 : decode cX5_hearStep 115 = .ok (.iadd, 1) := by decide +kernel
theorem dX5_hearStep_116 : decode cX5_hearStep 116 = .ok (.putfield 59, 3) := by decide +kernel
theorem dX5_hearStep_119 : decode cX5_hearStep 119 = .ok (.return_, 1) := by decide +kernel
theorem dX5_canBe_0 : decode cX5_canBe 0 = .ok (.iconst 0, 1) := by decide +kernel
theorem dX5_canBe_1 : decode cX5_canBe 1 = .ok (.istore_n 3, 1) := by decide +kernel
theorem dX5_canBe_2 : decode cX5_canBe 2 = .ok (.iload_n 3, 1) := by decide +kernel
theorem dX5_canBe_3 : decode cX5_canBe 3 = .ok (.aload_n 0, 1) := by decide +kernel
theorem dX5_canBe_4 : decode cX5_canBe 4 = .ok (.getfield 9, 3) := by decide +kernel
theorem dX5_canBe_7 : decode cX5_canBe 7 = .ok (.if_icmp .ge 34, 3) := by decide +kernel
theorem dX5_canBe_10 : decode cX5_canBe 10 = .ok (.aload_n 0, 1) := by decide +kernel
theorem dX5_canBe_11 : decode cX5_canBe 11 = .ok (.getfield 52, 3) := by decide +kernel
theorem dX5_canBe_14 : decode cX5_canBe 14 = .ok (.iload_n 3, 1) := by decide +kernel
theorem dX5_canBe_15 : decode cX5_canBe 15 = .ok (.invokevirtual 142, 3) := by decide +kernel
theorem dX5_canBe_18 : decode cX5_canBe 18 = .ok (.lconst 0, 1) := by decide +kernel
theorem dX5_canBe_19 : decode cX5_canBe 19 = .ok (.lcmp, 1) := by decide +kernel
theorem dX5_canBe_20 : decode cX5_canBe 20 = .ok (.ifCond .le 15, 3) := by decide +kernel
theorem dX5_canBe_23 : decode cX5_canBe 23 = .ok (.aload_n 0, 1) := by decide +kernel
theorem dX5_canBe_24 : decode cX5_canBe 24 = .ok (.aload_n 1, 1) := by decide +kernel
theorem dX5_canBe_25 : decode cX5_canBe 25 = .ok (.iload_n 3, 1) := by decide +kernel
theorem dX5_canBe_26 : decode cX5_canBe 26 = .ok (.iload_n 2, 1) := by decide +kernel
theorem dX5_canBe_27 : decode cX5_canBe 27 = .ok (.invokevirtual 146, 3) := by decide +kernel
theorem dX5_canBe_30 : decode cX5_canBe 30 = .ok (.ifCond .le 5, 3) := by decide +kernel
theorem dX5_canBe_33 : decode cX5_canBe 33 = .ok (.iconst 1, 1) := by decide +kernel
theorem dX5_canBe_34 : decode cX5_canBe 34 = .ok (.ireturn, 1) := by decide +kernel
theorem dX5_canBe_35 : decode cX5_canBe 35 = .ok (.iinc 3 1, 3) := by decide +kernel
theorem dX5_canBe_38 : decode cX5_canBe 38 = .ok (.goto (-36), 3) := by decide +kernel
theorem dX5_canBe_41 : decode cX5_canBe 41 = .ok (.iconst 0, 1) := by decide +kernel
theorem dX5_canBe_42 : decode cX5_canBe 42 = .ok (.ireturn, 1) := by decide +kernel
theorem dX5_hearSign_0 : decode cX5_hearSign 0 = .ok (.iconst 0, 1) := by decide +kernel
theorem dX5_hearSign_1 : decode cX5_hearSign 1 = .ok (.istore_n 3, 1) := by decide +kernel
theorem dX5_hearSign_2 : decode cX5_hearSign 2 = .ok (.iload_n 3, 1) := by decide +kernel
theorem dX5_hearSign_3 : decode cX5_hearSign 3 = .ok (.aload_n 0, 1) := by decide +kernel
theorem dX5_hearSign_4 : decode cX5_hearSign 4 = .ok (.getfield 9, 3) := by decide +kernel
theorem dX5_hearSign_7 : decode cX5_hearSign 7 = .ok (.if_icmp .ge 24, 3) := by decide +kernel
theorem dX5_hearSign_10 : decode cX5_hearSign 10 = .ok (.aload_n 0, 1) := by decide +kernel
theorem dX5_hearSign_11 : decode cX5_hearSign 11 = .ok (.getfield 52, 3) := by decide +kernel
theorem dX5_hearSign_14 : decode cX5_hearSign 14 = .ok (.iload_n 3, 1) := by decide +kernel
theorem dX5_hearSign_15 : decode cX5_hearSign 15 = .ok (.aload_n 0, 1) := by decide +kernel
theorem dX5_hearSign_16 : decode cX5_hearSign 16 = .ok (.aload_n 1, 1) := by decide +kernel
theorem dX5_hearSign_17 : decode cX5_hearSign 17 = .ok (.iload_n 3, 1) := by decide +kernel
theorem dX5_hearSign_18 : decode cX5_hearSign 18 = .ok (.iload_n 2, 1) := by decide +kernel
theorem dX5_hearSign_19 : decode cX5_hearSign 19 = .ok (.invokevirtual 146, 3) := by decide +kernel
theorem dX5_hearSign_22 : decode cX5_hearSign 22 = .ok (.invokevirtual 150, 3) := by decide +kernel
theorem dX5_hearSign_25 : decode cX5_hearSign 25 = .ok (.iinc 3 1, 3) := by decide +kernel
theorem dX5_hearSign_28 : decode cX5_hearSign 28 = .ok (.goto (-26), 3) := by decide +kernel
theorem dX5_hearSign_31 : decode cX5_hearSign 31 = .ok (.aload_n 0, 1) := by decide +kernel
theorem dX5_hearSign_32 : decode cX5_hearSign 32 = .ok (.getfield 52, 3) := by decide +kernel
theorem dX5_hearSign_35 : decode cX5_hearSign 35 = .ok (.invokevirtual 139, 3) := by decide +kernel
theorem dX5_hearSign_38 : decode cX5_hearSign 38 = .ok (.aload_n 0, 1) := by decide +kernel
theorem dX5_hearSign_39 : decode cX5_hearSign 39 = .ok (.dup, 1) := by decide +kernel
theorem dX5_hearSign_40 : decode cX5_hearSign 40 = .ok (.getfield 59, 3) := by decide +kernel
theorem dX5_hearSign_43 : decode cX5_hearSign 43 = .ok (.iconst 1, 1) := by decide +kernel
theorem dX5_hearSign_44 : decode cX5_hearSign 44 = .ok (.iadd, 1) := by decide +kernel
theorem dX5_hearSign_45 : decode cX5_hearSign 45 = .ok (.putfield 59, 3) := by decide +kernel
theorem dX5_hearSign_48 : decode cX5_hearSign 48 = .ok (.return_, 1) := by decide +kernel
theorem dX5_timesOf_0 : decode cX5_timesOf 0 = .ok (.aload_n 0, 1) := by decide +kernel
theorem dX5_timesOf_1 : decode cX5_timesOf 1 = .ok (.aload_n 1, 1) := by decide +kernel
theorem dX5_timesOf_2 : decode cX5_timesOf 2 = .ok (.iload_n 2, 1) := by decide +kernel
theorem dX5_timesOf_3 : decode cX5_timesOf 3 = .ok (.invokevirtual 118, 3) := by decide +kernel
theorem dX5_timesOf_6 : decode cX5_timesOf 6 = .ok (.istore 4, 2) := by decide +kernel
theorem dX5_timesOf_8 : decode cX5_timesOf 8 = .ok (.iload_n 3, 1) := by decide +kernel
theorem dX5_timesOf_9 : decode cX5_timesOf 9 = .ok (.ifCond .eq 8, 3) := by decide +kernel
theorem dX5_timesOf_12 : decode cX5_timesOf 12 = .ok (.iload 4, 2) := by decide +kernel
theorem dX5_timesOf_14 : decode cX5_timesOf 14 = .ok (.goto 8, 3) := by decide +kernel
theorem dX5_timesOf_17 : decode cX5_timesOf 17 = .ok (.bipush 10, 2) := by decide +kernel
theorem dX5_timesOf_19 : decode cX5_timesOf 19 = .ok (.iload 4, 2) := by decide +kernel
theorem dX5_timesOf_21 : decode cX5_timesOf 21 = .ok (.isub, 1) := by decide +kernel
theorem dX5_timesOf_22 : decode cX5_timesOf 22 = .ok (.ireturn, 1) := by decide +kernel
theorem dX5_hears_0 : decode cX5_hears 0 = .ok (.aload_n 0, 1) := by decide +kernel
theorem dX5_hears_1 : decode cX5_hears 1 = .ok (.getfield 59, 3) := by decide +kernel
theorem dX5_hears_4 : decode cX5_hears 4 = .ok (.bipush 16, 2) := by decide +kernel
theorem dX5_hears_6 : decode cX5_hears 6 = .ok (.if_icmp .lt 5, 3) := by decide +kernel
theorem dX5_hears_9 : decode cX5_hears 9 = .ok (.iconst 0, 1) := by decide +kernel
theorem dX5_hears_10 : decode cX5_hears 10 = .ok (.ireturn, 1) := by decide +kernel
theorem dX5_hears_11 : decode cX5_hears 11 = .ok (.iload_n 1, 1) := by decide +kernel
theorem dX5_hears_12 : decode cX5_hears 12 = .ok (.ifCond .eq 8, 3) := by decide +kernel
theorem dX5_hears_15 : decode cX5_hears 15 = .ok (.iload_n 1, 1) := by decide +kernel
theorem dX5_hears_16 : decode cX5_hears 16 = .ok (.iconst 1, 1) := by decide +kernel
theorem dX5_hears_17 : decode cX5_hears 17 = .ok (.if_icmp .ne 19, 3) := by decide +kernel
theorem dX5_hears_20 : decode cX5_hears 20 = .ok (.aload_n 0, 1) := by decide +kernel
theorem dX5_hears_21 : decode cX5_hears 21 = .ok (.iload_n 1, 1) := by decide +kernel
theorem dX5_hears_22 : decode cX5_hears 22 = .ok (.iconst 1, 1) := by decide +kernel
theorem dX5_hears_23 : decode cX5_hears 23 = .ok (.if_icmp .ne 7, 3) := by decide +kernel
theorem dX5_hears_26 : decode cX5_hears 26 = .ok (.iconst 1, 1) := by decide +kernel
theorem dX5_hears_27 : decode cX5_hears 27 = .ok (.goto 4, 3) := by decide +kernel
theorem dX5_hears_30 : decode cX5_hears 30 = .ok (.iconst 0, 1) := by decide +kernel
theorem dX5_hears_31 : decode cX5_hears 31 = .ok (.invokevirtual 154, 3) := by decide +kernel
theorem dX5_hears_34 : decode cX5_hears 34 = .ok (.iconst 1, 1) := by decide +kernel
theorem dX5_hears_35 : decode cX5_hears 35 = .ok (.ireturn, 1) := by decide +kernel
theorem dX5_hears_36 : decode cX5_hears 36 = .ok (.iload_n 1, 1) := by decide +kernel
theorem dX5_hears_37 : decode cX5_hears 37 = .ok (.bipush 10, 2) := by decide +kernel
theorem dX5_hears_39 : decode cX5_hears 39 = .ok (.if_icmp .lt 13, 3) := by decide +kernel
theorem dX5_hears_42 : decode cX5_hears 42 = .ok (.iload_n 1, 1) := by decide +kernel
theorem dX5_hears_43 : decode cX5_hears 43 = .ok (.bipush 20, 2) := by decide +kernel
theorem dX5_hears_45 : decode cX5_hears 45 = .ok (.if_icmp .ge 7, 3) := by decide +kernel
theorem dX5_hears_48 : decode cX5_hears 48 = .ok (.iconst 1, 1) := by decide +kernel
theorem dX5_hears_49 : decode cX5_hears 49 = .ok (.goto 4, 3) := by decide +kernel
theorem dX5_hears_52 : decode cX5_hears 52 = .ok (.iconst 0, 1) := by decide +kernel
theorem dX5_hears_53 : decode cX5_hears 53 = .ok (.istore_n 2, 1) := by decide +kernel
theorem dX5_hears_54 : decode cX5_hears 54 = .ok (.aload_n 0, 1) := by decide +kernel
theorem dX5_hears_55 : decode cX5_hears 55 = .ok (.iload_n 2, 1) := by decide +kernel
theorem dX5_hears_56 : decode cX5_hears 56 = .ok (.ifCond .eq 10, 3) := by decide +kernel
theorem dX5_hears_59 : decode cX5_hears 59 = .ok (.iload_n 1, 1) := by decide +kernel
theorem dX5_hears_60 : decode cX5_hears 60 = .ok (.bipush 10, 2) := by decide +kernel
theorem dX5_hears_62 : decode cX5_hears 62 = .ok (.isub, 1) := by decide +kernel
theorem dX5_hears_63 : decode cX5_hears 63 = .ok (.goto 7, 3) := by decide +kernel
theorem dX5_hears_66 : decode cX5_hears 66 = .ok (.iload_n 1, 1) := by decide +kernel
theorem dX5_hears_67 : decode cX5_hears 67 = .ok (.bipush 20, 2) := by decide +kernel
theorem dX5_hears_69 : decode cX5_hears 69 = .ok (.isub, 1) := by decide +kernel
theorem dX5_hears_70 : decode cX5_hears 70 = .ok (.invokevirtual 158, 3) := by decide +kernel
theorem dX5_hears_73 : decode cX5_hears 73 = .ok (.astore_n 3, 1) := by decide +kernel
theorem dX5_hears_74 : decode cX5_hears 74 = .ok (.aload_n 3, 1) := by decide +kernel
theorem dX5_hears_75 : decode cX5_hears 75 = .ok (.ifnull 12, 3) := by decide +kernel
theorem dX5_hears_78 : decode cX5_hears 78 = .ok (.aload_n 0, 1) := by decide +kernel
theorem dX5_hears_79 : decode cX5_hears 79 = .ok (.aload_n 3, 1) := by decide +kernel
theorem dX5_hears_80 : decode cX5_hears 80 = .ok (.iload_n 2, 1) := by decide +kernel
theorem dX5_hears_81 : decode cX5_hears 81 = .ok (.invokevirtual 162, 3) := by decide +kernel
theorem dX5_hears_84 : decode cX5_hears 84 = .ok (.ifCond .ne 5, 3) := by decide +kernel
theorem dX5_hears_87 : decode cX5_hears 87 = .ok (.iconst 0, 1) := by decide +kernel
theorem dX5_hears_88 : decode cX5_hears 88 = .ok (.ireturn, 1) := by decide +kernel
theorem dX5_hears_89 : decode cX5_hears 89 = .ok (.aload_n 0, 1) := by decide +kernel
theorem dX5_hears_90 : decode cX5_hears 90 = .ok (.aload_n 3, 1) := by decide +kernel
theorem dX5_hears_91 : decode cX5_hears 91 = .ok (.iload_n 2, 1) := by decide +kernel
theorem dX5_hears_92 : decode cX5_hears 92 = .ok (.invokevirtual 166, 3) := by decide +kernel
theorem dX5_hears_95 : decode cX5_hears 95 = .ok (.iconst 1, 1) := by decide +kernel
theorem dX5_hears_96 : decode cX5_hears 96 = .ok (.ireturn, 1) := by decide +kernel
theorem dX5_standsOnWalk_0 : decode cX5_standsOnWalk 0 = .ok (.aload_n 0, 1) := by decide +kernel
theorem dX5_standsOnWalk_1 : decode cX5_standsOnWalk 1 = .ok (.iload_n 1, 1) := by decide +kernel
theorem dX5_standsOnWalk_2 : decode cX5_standsOnWalk 2 = .ok (.invokevirtual 170, 3) := by decide +kernel
theorem dX5_standsOnWalk_5 : decode cX5_standsOnWalk 5 = .ok (.astore 5, 2) := by decide +kernel
theorem dX5_standsOnWalk_7 : decode cX5_standsOnWalk 7 = .ok (.aload 5, 2) := by decide +kernel
theorem dX5_standsOnWalk_9 : decode cX5_standsOnWalk 9 = .ok (.ifnull 42, 3) := by decide +kernel
theorem dX5_standsOnWalk_12 : decode cX5_standsOnWalk 12 = .ok (.iload 4, 2) := by decide +kernel
theorem dX5_standsOnWalk_14 : decode cX5_standsOnWalk 14 = .ok (.iload_n 1, 1) := by decide +kernel
theorem dX5_standsOnWalk_15 : decode cX5_standsOnWalk 15 = .ok (.ishr, 1) := by decide +kernel
theorem dX5_standsOnWalk_16 : decode cX5_standsOnWalk 16 = .ok (.iconst 1, 1) := by decide +kernel
theorem dX5_standsOnWalk_17 : decode cX5_standsOnWalk 17 = .ok (.iand, 1) := by decide +kernel
theorem dX5_standsOnWalk_18 : decode cX5_standsOnWalk 18 = .ok (.ifCond .ne 33, 3) := by decide +kernel
theorem dX5_standsOnWalk_21 : decode cX5_standsOnWalk 21 = .ok (.aload 5, 2) := by decide +kernel
theorem dX5_standsOnWalk_23 : decode cX5_standsOnWalk 23 = .ok (.getfield 174, 3) := by decide +kernel
theorem dX5_standsOnWalk_26 : decode cX5_standsOnWalk 26 = .ok (.iload_n 2, 1) := by decide +kernel
theorem dX5_standsOnWalk_27 : decode cX5_standsOnWalk 27 = .ok (.iload_n 3, 1) := by decide +kernel
theorem dX5_standsOnWalk_28 : decode cX5_standsOnWalk 28 = .ok (.invokestatic 91, 3) := by decide +kernel
theorem dX5_standsOnWalk_31 : decode cX5_standsOnWalk 31 = .ok (.if_icmp .lt 20, 3) := by decide +kernel
theorem dX5_standsOnWalk_34 : decode cX5_standsOnWalk 34 = .ok (.aload 5, 2) := by decide +kernel
theorem dX5_standsOnWalk_36 : decode cX5_standsOnWalk 36 = .ok (.getfield 174, 3) := by decide +kernel
theorem dX5_standsOnWalk_39 : decode cX5_standsOnWalk 39 = .ok (.iload_n 2, 1) := by decide +kernel
theorem dX5_standsOnWalk_40 : decode cX5_standsOnWalk 40 = .ok (.iload_n 3, 1) := by decide +kernel
theorem dX5_standsOnWalk_41 : decode cX5_standsOnWalk 41 = .ok (.invokestatic 85, 3) := by decide +kernel
theorem dX5_standsOnWalk_44 : decode cX5_standsOnWalk 44 = .ok (.if_icmp .gt 7, 3) := by decide +kernel
theorem dX5_standsOnWalk_47 : decode cX5_standsOnWalk 47 = .ok (.iconst 1, 1) := by decide +kernel
theorem dX5_standsOnWalk_48 : decode cX5_standsOnWalk 48 = .ok (.goto 4, 3) := by decide +kernel
theorem dX5_standsOnWalk_51 : decode cX5_standsOnWalk 51 = .ok (.iconst 0, 1) := by decide +kernel
theorem dX5_standsOnWalk_52 : decode cX5_standsOnWalk 52 = .ok (.ireturn, 1) := by decide +kernel
theorem dX5_missedOfHundred_0 : decode cX5_missedOfHundred 0 = .ok (.aload_n 0, 1) := by decide +kernel
theorem dX5_missedOfHundred_1 : decode cX5_missedOfHundred 1 = .ok (.iload_n 1, 1) := by decide +kernel
theorem dX5_missedOfHundred_2 : decode cX5_missedOfHundred 2 = .ok (.invokevirtual 170, 3) := by decide +kernel
theorem dX5_missedOfHundred_5 : decode cX5_missedOfHundred 5 = .ok (.astore_n 2, 1) := by decide +kernel
theorem dX5_missedOfHundred_6 : decode cX5_missedOfHundred 6 = .ok (.aload_n 2, 1) := by decide +kernel
theorem dX5_missedOfHundred_7 : decode cX5_missedOfHundred 7 = .ok (.ifnonnull 8, 3) := by decide +kernel
theorem dX5_missedOfHundred_10 : decode cX5_missedOfHundred 10 = .ok (.bipush 100, 2) := by decide +kernel
theorem dX5_missedOfHundred_12 : decode cX5_missedOfHundred 12 = .ok (.goto 30, 3) := by decide +kernel
theorem dX5_missedOfHundred_15 : decode cX5_missedOfHundred 15 = .ok (.bipush 100, 2) := by decide +kernel
theorem dX5_missedOfHundred_17 : decode cX5_missedOfHundred 17 = .ok (.aload_n 2, 1) := by decide +kernel
theorem dX5_missedOfHundred_18 : decode cX5_missedOfHundred 18 = .ok (.getfield 175, 3) := by decide +kernel
theorem dX5_missedOfHundred_21 : decode cX5_missedOfHundred 21 = .ok (.aload_n 2, 1) := by decide +kernel
theorem dX5_missedOfHundred_22 : decode cX5_missedOfHundred 22 = .ok (.getfield 178, 3) := by decide +kernel
theorem dX5_missedOfHundred_25 : decode cX5_missedOfHundred 25 = .ok (.ifCond .eq 8, 3) := by decide +kernel
theorem dX5_missedOfHundred_28 : decode cX5_missedOfHundred 28 = .ok (.bipush 10, 2) := by decide +kernel
theorem dX5_missedOfHundred_30 : decode cX5_missedOfHundred 30 = .ok (.goto 10, 3) := by decide +kernel
theorem dX5_missedOfHundred_33 : decode cX5_missedOfHundred 33 = .ok (.bipush 10, 2) := by decide +kernel
theorem dX5_missedOfHundred_35 : decode cX5_missedOfHundred 35 = .ok (.aload_n 0, 1) := by decide +kernel
theorem dX5_missedOfHundred_36 : decode cX5_missedOfHundred 36 = .ok (.getfield 28, 3) := by decide +kernel
theorem dX5_missedOfHundred_39 : decode cX5_missedOfHundred 39 = .ok (.isub, 1) := by decide +kernel
theorem dX5_missedOfHundred_40 : decode cX5_missedOfHundred 40 = .ok (.imul, 1) := by decide +kernel
theorem dX5_missedOfHundred_41 : decode cX5_missedOfHundred 41 = .ok (.isub, 1) := by decide +kernel
theorem dX5_missedOfHundred_42 : decode cX5_missedOfHundred 42 = .ok (.ireturn, 1) := by decide +kernel
theorem dX5_safeBut_0 : decode cX5_safeBut 0 = .ok (.lconst 1, 1) := by decide +kernel
theorem dX5_safeBut_1 : decode cX5_safeBut 1 = .ok (.lstore 4, 2) := by decide +kernel
theorem dX5_safeBut_3 : decode cX5_safeBut 3 = .ok (.iconst 0, 1) := by decide +kernel
theorem dX5_safeBut_4 : decode cX5_safeBut 4 = .ok (.istore 6, 2) := by decide +kernel
theorem dX5_safeBut_6 : decode cX5_safeBut 6 = .ok (.iload 6, 2) := by decide +kernel
theorem dX5_safeBut_8 : decode cX5_safeBut 8 = .ok (.aload_n 0, 1) := by decide +kernel
theorem dX5_safeBut_9 : decode cX5_safeBut 9 = .ok (.getfield 46, 3) := by decide +kernel
theorem dX5_safeBut_12 : decode cX5_safeBut 12 = .ok (.if_icmp .ge 33, 3) := by decide +kernel
theorem dX5_safeBut_15 : decode cX5_safeBut 15 = .ok (.aload_n 0, 1) := by decide +kernel
theorem dX5_safeBut_16 : decode cX5_safeBut 16 = .ok (.iload 6, 2) := by decide +kernel
theorem dX5_safeBut_18 : decode cX5_safeBut 18 = .ok (.iload_n 1, 1) := by decide +kernel
theorem dX5_safeBut_19 : decode cX5_safeBut 19 = .ok (.iload_n 2, 1) := by decide +kernel
theorem dX5_safeBut_20 : decode cX5_safeBut 20 = .ok (.iload_n 3, 1) := by decide +kernel
theorem dX5_safeBut_21 : decode cX5_safeBut 21 = .ok (.invokevirtual 181, 3) := by decide +kernel
theorem dX5_safeBut_24 : decode cX5_safeBut 24 = .ok (.ifCond .eq 15, 3) := by decide +kernel
theorem dX5_safeBut_27 : decode cX5_safeBut 27 = .ok (.lload 4, 2) := by decide +kernel
theorem dX5_safeBut_29 : decode cX5_safeBut 29 = .ok (.aload_n 0, 1) := by decide +kernel
theorem dX5_safeBut_30 : decode cX5_safeBut 30 = .ok (.iload 6, 2) := by decide +kernel
theorem dX5_safeBut_32 : decode cX5_safeBut 32 = .ok (.invokevirtual 185, 3) := by decide +kernel
theorem dX5_safeBut_35 : decode cX5_safeBut 35 = .ok (.i2l, 1) := by decide +kernel
theorem dX5_safeBut_36 : decode cX5_safeBut 36 = .ok (.lmul, 1) := by decide +kernel
theorem dX5_safeBut_37 : decode cX5_safeBut 37 = .ok (.lstore 4, 2) := by decide +kernel
theorem dX5_safeBut_39 : decode cX5_safeBut 39 = .ok (.iinc 6 1, 3) := by decide +kernel
theorem dX5_safeBut_42 : decode cX5_safeBut 42 = .ok (.goto (-36), 3) := by decide +kernel
theorem dX5_safeBut_45 : decode cX5_safeBut 45 = .ok (.lload 4, 2) := by decide +kernel
theorem dX5_safeBut_47 : decode cX5_safeBut 47 = .ok (.lreturn, 1) := by decide +kernel
theorem dX5_firstBut_0 : decode cX5_firstBut 0 = .ok (.iconst (-1), 1) := by decide +kernel
theorem dX5_firstBut_1 : decode cX5_firstBut 1 = .ok (.istore 4, 2) := by decide +kernel
theorem dX5_firstBut_3 : decode cX5_firstBut 3 = .ok (.ldc2_w 188, 3) := by decide +kernel
theorem dX5_firstBut_6 : decode cX5_firstBut 6 = .ok (.lstore 5, 2) := by decide +kernel
theorem dX5_firstBut_8 : decode cX5_firstBut 8 = .ok (.iconst 0, 1) := by decide +kernel
theorem dX5_firstBut_9 : decode cX5_firstBut 9 = .ok (.istore 7, 2) := by decide +kernel
theorem dX5_firstBut_11 : decode cX5_firstBut 11 = .ok (.iload 7, 2) := by decide +kernel
theorem dX5_firstBut_13 : decode cX5_firstBut 13 = .ok (.aload_n 0, 1) := by decide +kernel
theorem dX5_firstBut_14 : decode cX5_firstBut 14 = .ok (.getfield 46, 3) := by decide +kernel
theorem dX5_firstBut_17 : decode cX5_firstBut 17 = .ok (.if_icmp .ge 51, 3) := by decide +kernel
theorem dX5_firstBut_20 : decode cX5_firstBut 20 = .ok (.aload_n 0, 1) := by decide +kernel
theorem dX5_firstBut_21 : decode cX5_firstBut 21 = .ok (.iload 7, 2) := by decide +kernel
theorem dX5_firstBut_23 : decode cX5_firstBut 23 = .ok (.iload_n 1, 1) := by decide +kernel
theorem dX5_firstBut_24 : decode cX5_firstBut 24 = .ok (.iload_n 2, 1) := by decide +kernel
theorem dX5_firstBut_25 : decode cX5_firstBut 25 = .ok (.iload_n 3, 1) := by decide +kernel
theorem dX5_firstBut_26 : decode cX5_firstBut 26 = .ok (.invokevirtual 181, 3) := by decide +kernel
theorem dX5_firstBut_29 : decode cX5_firstBut 29 = .ok (.ifCond .eq 33, 3) := by decide +kernel
theorem dX5_firstBut_32 : decode cX5_firstBut 32 = .ok (.aload_n 0, 1) := by decide +kernel
theorem dX5_firstBut_33 : decode cX5_firstBut 33 = .ok (.iload_n 1, 1) := by decide +kernel
theorem dX5_firstBut_34 : decode cX5_firstBut 34 = .ok (.iload_n 2, 1) := by decide +kernel
theorem dX5_firstBut_35 : decode cX5_firstBut 35 = .ok (.iload_n 3, 1) := by decide +kernel
theorem dX5_firstBut_36 : decode cX5_firstBut 36 = .ok (.iconst 1, 1) := by decide +kernel
theorem dX5_firstBut_37 : decode cX5_firstBut 37 = .ok (.iload 7, 2) := by decide +kernel
theorem dX5_firstBut_39 : decode cX5_firstBut 39 = .ok (.ishl, 1) := by decide +kernel
theorem dX5_firstBut_40 : decode cX5_firstBut 40 = .ok (.ior, 1) := by decide +kernel
theorem dX5_firstBut_41 : decode cX5_firstBut 41 = .ok (.invokevirtual 190, 3) := by decide +kernel
theorem dX5_firstBut_44 : decode cX5_firstBut 44 = .ok (.lstore 8, 2) := by decide +kernel
theorem dX5_firstBut_46 : decode cX5_firstBut 46 = .ok (.lload 8, 2) := by decide +kernel
theorem dX5_firstBut_48 : decode cX5_firstBut 48 = .ok (.lload 5, 2) := by decide +kernel
theorem dX5_firstBut_50 : decode cX5_firstBut 50 = .ok (.lcmp, 1) := by decide +kernel
theorem dX5_firstBut_51 : decode cX5_firstBut 51 = .ok (.ifCond .le 11, 3) := by decide +kernel
theorem dX5_firstBut_54 : decode cX5_firstBut 54 = .ok (.iload 7, 2) := by decide +kernel
theorem dX5_firstBut_56 : decode cX5_firstBut 56 = .ok (.istore 4, 2) := by decide +kernel
theorem dX5_firstBut_58 : decode cX5_firstBut 58 = .ok (.lload 8, 2) := by decide +kernel
theorem dX5_firstBut_60 : decode cX5_firstBut 60 = .ok (.lstore 5, 2) := by decide +kernel
theorem dX5_firstBut_62 : decode cX5_firstBut 62 = .ok (.iinc 7 1, 3) := by decide +kernel
theorem dX5_firstBut_65 : decode cX5_firstBut 65 = .ok (.goto (-54), 3) := by decide +kernel
theorem dX5_firstBut_68 : decode cX5_firstBut 68 = .ok (.iload 4, 2) := by decide +kernel
theorem dX5_firstBut_70 : decode cX5_firstBut 70 = .ok (.ireturn, 1) := by decide +kernel
theorem dX5_orderedAt_0 : decode cX5_orderedAt 0 = .ok (.iconst 0, 1) := by decide +kernel
theorem dX5_orderedAt_1 : decode cX5_orderedAt 1 = .ok (.istore 4, 2) := by decide +kernel
theorem dX5_orderedAt_3 : decode cX5_orderedAt 3 = .ok (.iconst 0, 1) := by decide +kernel
theorem dX5_orderedAt_4 : decode cX5_orderedAt 4 = .ok (.istore 5, 2) := by decide +kernel
theorem dX5_orderedAt_6 : decode cX5_orderedAt 6 = .ok (.iload 5, 2) := by decide +kernel
theorem dX5_orderedAt_8 : decode cX5_orderedAt 8 = .ok (.aload_n 0, 1) := by decide +kernel
theorem dX5_orderedAt_9 : decode cX5_orderedAt 9 = .ok (.getfield 46, 3) := by decide +kernel
theorem dX5_orderedAt_12 : decode cX5_orderedAt 12 = .ok (.if_icmp .ge 47, 3) := by decide +kernel
theorem dX5_orderedAt_15 : decode cX5_orderedAt 15 = .ok (.iload_n 3, 1) := by decide +kernel
theorem dX5_orderedAt_16 : decode cX5_orderedAt 16 = .ok (.ifCond .lt 43, 3) := by decide +kernel
theorem dX5_orderedAt_19 : decode cX5_orderedAt 19 = .ok (.aload_n 0, 1) := by decide +kernel
theorem dX5_orderedAt_20 : decode cX5_orderedAt 20 = .ok (.iload_n 1, 1) := by decide +kernel
theorem dX5_orderedAt_21 : decode cX5_orderedAt 21 = .ok (.iload_n 2, 1) := by decide +kernel
theorem dX5_orderedAt_22 : decode cX5_orderedAt 22 = .ok (.iload 4, 2) := by decide +kernel
theorem dX5_orderedAt_24 : decode cX5_orderedAt 24 = .ok (.invokevirtual 194, 3) := by decide +kernel
theorem dX5_orderedAt_27 : decode cX5_orderedAt 27 = .ok (.istore 6, 2) := by decide +kernel
theorem dX5_orderedAt_29 : decode cX5_orderedAt 29 = .ok (.iload 5, 2) := by decide +kernel
theorem dX5_orderedAt_31 : decode cX5_orderedAt 31 = .ok (.iload_n 3, 1) := by decide +kernel
theorem dX5_orderedAt_32 : decode cX5_orderedAt 32 = .ok (.if_icmp .eq 9, 3) := by decide +kernel
theorem dX5_orderedAt_35 : decode cX5_orderedAt 35 = .ok (.iload 6, 2) := by decide +kernel
theorem dX5_orderedAt_37 : decode cX5_orderedAt 37 = .ok (.iconst (-1), 1) := by decide +kernel
theorem dX5_orderedAt_38 : decode cX5_orderedAt 38 = .ok (.if_icmp .ne 6, 3) := by decide +kernel
theorem dX5_orderedAt_41 : decode cX5_orderedAt 41 = .ok (.iload 6, 2) := by decide +kernel
theorem dX5_orderedAt_43 : decode cX5_orderedAt 43 = .ok (.ireturn, 1) := by decide +kernel
theorem dX5_orderedAt_44 : decode cX5_orderedAt 44 = .ok (.iload 4, 2) := by decide +kernel
theorem dX5_orderedAt_46 : decode cX5_orderedAt 46 = .ok (.iconst 1, 1) := by decide +kernel
theorem dX5_orderedAt_47 : decode cX5_orderedAt 47 = .ok (.iload 6, 2) := by decide +kernel
theorem dX5_orderedAt_49 : decode cX5_orderedAt 49 = .ok (.ishl, 1) := by decide +kernel
theorem dX5_orderedAt_50 : decode cX5_orderedAt 50 = .ok (.ior, 1) := by decide +kernel
theorem dX5_orderedAt_51 : decode cX5_orderedAt 51 = .ok (.istore 4, 2) := by decide +kernel
theorem dX5_orderedAt_53 : decode cX5_orderedAt 53 = .ok (.iinc 5 1, 3) := by decide +kernel
theorem dX5_orderedAt_56 : decode cX5_orderedAt 56 = .ok (.goto (-50), 3) := by decide +kernel
theorem dX5_orderedAt_59 : decode cX5_orderedAt 59 = .ok (.iconst (-1), 1) := by decide +kernel
theorem dX5_orderedAt_60 : decode cX5_orderedAt 60 = .ok (.ireturn, 1) := by decide +kernel
theorem dX6_init_0 : decode cX6_init 0 = .ok (.aload_n 0, 1) := by decide +kernel
theorem dX6_init_1 : decode cX6_init 1 = .ok (.invokespecial 1, 3) := by decide +kernel
theorem dX6_init_4 : decode cX6_init 4 = .ok (.aload_n 0, 1) := by decide +kernel
theorem dX6_init_5 : decode cX6_init 5 = .ok (.iload_n 1, 1) := by decide +kernel
theorem dX6_init_6 : decode cX6_init 6 = .ok (.putfield 7, 3) := by decide +kernel
theorem dX6_init_9 : decode cX6_init 9 = .ok (.aload_n 0, 1) := by decide +kernel
theorem dX6_init_10 : decode cX6_init 10 = .ok (.iload_n 2, 1) := by decide +kernel
theorem dX6_init_11 : decode cX6_init 11 = .ok (.putfield 13, 3) := by decide +kernel
theorem dX6_init_14 : decode cX6_init 14 = .ok (.aload_n 0, 1) := by decide +kernel
theorem dX6_init_15 : decode cX6_init 15 = .ok (.iload_n 3, 1) := by decide +kernel
theorem dX6_init_16 : decode cX6_init 16 = .ok (.putfield 17, 3) := by decide +kernel
theorem dX6_init_19 : decode cX6_init 19 = .ok (.return_, 1) := by decide +kernel
theorem dX7_init_0 : decode cX7_init 0 = .ok (.aload_n 0, 1) := by decide +kernel
theorem dX7_init_1 : decode cX7_init 1 = .ok (.invokespecial 3, 3) := by decide +kernel
theorem dX7_init_4 : decode cX7_init 4 = .ok (.aload_n 0, 1) := by decide +kernel
theorem dX7_init_5 : decode cX7_init 5 = .ok (.bipush 20, 2) := by decide +kernel
theorem dX7_init_7 : decode cX7_init 7 = .ok (.newarray .int, 2) := by decide +kernel
theorem dX7_init_9 : decode cX7_init 9 = .ok (.putfield 11, 3) := by decide +kernel
theorem dX7_init_12 : decode cX7_init 12 = .ok (.aload_n 0, 1) := by decide +kernel
theorem dX7_init_13 : decode cX7_init 13 = .ok (.iconst 0, 1) := by decide +kernel
theorem dX7_init_14 : decode cX7_init 14 = .ok (.putfield 15, 3) := by decide +kernel
theorem dX7_init_17 : decode cX7_init 17 = .ok (.return_, 1) := by decide +kernel
theorem dX7_wipe_0 : decode cX7_wipe 0 = .ok (.aload_n 0, 1) := by decide +kernel
theorem dX7_wipe_1 : decode cX7_wipe 1 = .ok (.iconst 0, 1) := by decide +kernel
theorem dX7_wipe_2 : decode cX7_wipe 2 = .ok (.putfield 15, 3) := by decide +kernel
theorem dX7_wipe_5 : decode cX7_wipe 5 = .ok (.return_, 1) := by decide +kernel
theorem dX7_add_0 : decode cX7_add 0 = .ok (.aload_n 0, 1) := by decide +kernel
theorem dX7_add_1 : decode cX7_add 1 = .ok (.getfield 15, 3) := by decide +kernel
theorem dX7_add_4 : decode cX7_add 4 = .ok (.ifCond .lt 22, 3) := by decide +kernel
theorem dX7_add_7 : decode cX7_add 7 = .ok (.aload_n 0, 1) := by decide +kernel
theorem dX7_add_8 : decode cX7_add 8 = .ok (.getfield 15, 3) := by decide +kernel
theorem dX7_add_11 : decode cX7_add 11 = .ok (.bipush 20, 2) := by decide +kernel
theorem dX7_add_13 : decode cX7_add 13 = .ok (.if_icmp .ge 13, 3) := by decide +kernel
theorem dX7_add_16 : decode cX7_add 16 = .ok (.aload_n 0, 1) := by decide +kernel
theorem dX7_add_17 : decode cX7_add 17 = .ok (.getfield 11, 3) := by decide +kernel
theorem dX7_add_20 : decode cX7_add 20 = .ok (.aload_n 0, 1) := by decide +kernel
theorem dX7_add_21 : decode cX7_add 21 = .ok (.getfield 15, 3) := by decide +kernel
theorem dX7_add_24 : decode cX7_add 24 = .ok (.iload_n 1, 1) := by decide +kernel
theorem dX7_add_25 : decode cX7_add 25 = .ok (.iastore, 1) := by decide +kernel
theorem dX7_add_26 : decode cX7_add 26 = .ok (.aload_n 0, 1) := by decide +kernel
theorem dX7_add_27 : decode cX7_add 27 = .ok (.dup, 1) := by decide +kernel
theorem dX7_add_28 : decode cX7_add 28 = .ok (.getfield 15, 3) := by decide +kernel
theorem dX7_add_31 : decode cX7_add 31 = .ok (.iconst 1, 1) := by decide +kernel
theorem dX7_add_32 : decode cX7_add 32 = .ok (.iadd, 1) := by decide +kernel
theorem dX7_add_33 : decode cX7_add 33 = .ok (.putfield 15, 3) := by decide +kernel
theorem dX7_add_36 : decode cX7_add 36 = .ok (.return_, 1) := by decide +kernel
theorem dX7_bodyAt_0 : decode cX7_bodyAt 0 = .ok (.iload_n 1, 1) := by decide +kernel
theorem dX7_bodyAt_1 : decode cX7_bodyAt 1 = .ok (.ifCond .lt 17, 3) := by decide +kernel
theorem dX7_bodyAt_4 : decode cX7_bodyAt 4 = .ok (.iload_n 1, 1) := by decide +kernel
theorem dX7_bodyAt_5 : decode cX7_bodyAt 5 = .ok (.aload_n 0, 1) := by decide +kernel
theorem dX7_bodyAt_6 : decode cX7_bodyAt 6 = .ok (.getfield 15, 3) := by decide +kernel
theorem dX7_bodyAt_9 : decode cX7_bodyAt 9 = .ok (.if_icmp .ge 9, 3) := by decide +kernel
theorem dX7_bodyAt_12 : decode cX7_bodyAt 12 = .ok (.iload_n 1, 1) := by decide +kernel
theorem dX7_bodyAt_13 : decode cX7_bodyAt 13 = .ok (.bipush 20, 2) := by decide +kernel
theorem dX7_bodyAt_15 : decode cX7_bodyAt 15 = .ok (.if_icmp .lt 7, 3) := by decide +kernel
theorem dX7_bodyAt_18 : decode cX7_bodyAt 18 = .ok (.iconst (-1), 1) := by decide +kernel
theorem dX7_bodyAt_19 : decode cX7_bodyAt 19 = .ok (.goto 9, 3) := by decide +kernel
theorem dX7_bodyAt_22 : decode cX7_bodyAt 22 = .ok (.aload_n 0, 1) := by decide +kernel
theorem dX7_bodyAt_23 : decode cX7_bodyAt 23 = .ok (.getfield 11, 3) := by decide +kernel
theorem dX7_bodyAt_26 : decode cX7_bodyAt 26 = .ok (.iload_n 1, 1) := by decide +kernel
theorem dX7_bodyAt_27 : decode cX7_bodyAt 27 = .ok (.iaload, 1) := by decide +kernel
theorem dX7_bodyAt_28 : decode cX7_bodyAt 28 = .ok (.ireturn, 1) := by decide +kernel
theorem dJ6_bitCount_0f7a4_0 : decode cJ6_bitCount_0f7a4 0 = .ok (.iload_n 0, 1) := by decide +kernel
theorem dJ6_bitCount_0f7a4_1 : decode cJ6_bitCount_0f7a4 1 = .ok (.iload_n 0, 1) := by decide +kernel
theorem dJ6_bitCount_0f7a4_2 : decode cJ6_bitCount_0f7a4 2 = .ok (.iconst 1, 1) := by decide +kernel
theorem dJ6_bitCount_0f7a4_3 : decode cJ6_bitCount_0f7a4 3 = .ok (.iushr, 1) := by decide +kernel
theorem dJ6_bitCount_0f7a4_4 : decode cJ6_bitCount_0f7a4 4 = .ok (.ldc_w 265, 3) := by decide +kernel
theorem dJ6_bitCount_0f7a4_7 : decode cJ6_bitCount_0f7a4 7 = .ok (.iand, 1) := by decide +kernel
theorem dJ6_bitCount_0f7a4_8 : decode cJ6_bitCount_0f7a4 8 = .ok (.isub, 1) := by decide +kernel
theorem dJ6_bitCount_0f7a4_9 : decode cJ6_bitCount_0f7a4 9 = .ok (.istore_n 0, 1) := by decide +kernel
theorem dJ6_bitCount_0f7a4_10 : decode cJ6_bitCount_0f7a4 10 = .ok (.iload_n 0, 1) := by decide +kernel
theorem dJ6_bitCount_0f7a4_11 : decode cJ6_bitCount_0f7a4 11 = .ok (.ldc_w 266, 3) := by decide +kernel
theorem dJ6_bitCount_0f7a4_14 : decode cJ6_bitCount_0f7a4 14 = .ok (.iand, 1) := by decide +kernel
theorem dJ6_bitCount_0f7a4_15 : decode cJ6_bitCount_0f7a4 15 = .ok (.iload_n 0, 1) := by decide +kernel
theorem dJ6_bitCount_0f7a4_16 : decode cJ6_bitCount_0f7a4 16 = .ok (.iconst 2, 1) := by decide +kernel
theorem dJ6_bitCount_0f7a4_17 : decode cJ6_bitCount_0f7a4 17 = .ok (.iushr, 1) := by decide +kernel
theorem dJ6_bitCount_0f7a4_18 : decode cJ6_bitCount_0f7a4 18 = .ok (.ldc_w 266, 3) := by decide +kernel
theorem dJ6_bitCount_0f7a4_21 : decode cJ6_bitCount_0f7a4 21 = .ok (.iand, 1) := by decide +kernel
theorem dJ6_bitCount_0f7a4_22 : decode cJ6_bitCount_0f7a4 22 = .ok (.iadd, 1) := by decide +kernel
theorem dJ6_bitCount_0f7a4_23 : decode cJ6_bitCount_0f7a4 23 = .ok (.istore_n 0, 1) := by decide +kernel
theorem dJ6_bitCount_0f7a4_24 : decode cJ6_bitCount_0f7a4 24 = .ok (.iload_n 0, 1) := by decide +kernel
theorem dJ6_bitCount_0f7a4_25 : decode cJ6_bitCount_0f7a4 25 = .ok (.iload_n 0, 1) := by decide +kernel
theorem dJ6_bitCount_0f7a4_26 : decode cJ6_bitCount_0f7a4 26 = .ok (.iconst 4, 1) := by decide +kernel
theorem dJ6_bitCount_0f7a4_27 : decode cJ6_bitCount_0f7a4 27 = .ok (.iushr, 1) := by decide +kernel
theorem dJ6_bitCount_0f7a4_28 : decode cJ6_bitCount_0f7a4 28 = .ok (.iadd, 1) := by decide +kernel
theorem dJ6_bitCount_0f7a4_29 : decode cJ6_bitCount_0f7a4 29 = .ok (.ldc_w 267, 3) := by decide +kernel
theorem dJ6_bitCount_0f7a4_32 : decode cJ6_bitCount_0f7a4 32 = .ok (.iand, 1) := by decide +kernel
theorem dJ6_bitCount_0f7a4_33 : decode cJ6_bitCount_0f7a4 33 = .ok (.istore_n 0, 1) := by decide +kernel
theorem dJ6_bitCount_0f7a4_34 : decode cJ6_bitCount_0f7a4 34 = .ok (.iload_n 0, 1) := by decide +kernel
theorem dJ6_bitCount_0f7a4_35 : decode cJ6_bitCount_0f7a4 35 = .ok (.iload_n 0, 1) := by decide +kernel
theorem dJ6_bitCount_0f7a4_36 : decode cJ6_bitCount_0f7a4 36 = .ok (.bipush 8, 2) := by decide +kernel
theorem dJ6_bitCount_0f7a4_38 : decode cJ6_bitCount_0f7a4 38 = .ok (.iushr, 1) := by decide +kernel
theorem dJ6_bitCount_0f7a4_39 : decode cJ6_bitCount_0f7a4 39 = .ok (.iadd, 1) := by decide +kernel
theorem dJ6_bitCount_0f7a4_40 : decode cJ6_bitCount_0f7a4 40 = .ok (.istore_n 0, 1) := by decide +kernel
theorem dJ6_bitCount_0f7a4_41 : decode cJ6_bitCount_0f7a4 41 = .ok (.iload_n 0, 1) := by decide +kernel
theorem dJ6_bitCount_0f7a4_42 : decode cJ6_bitCount_0f7a4 42 = .ok (.iload_n 0, 1) := by decide +kernel
theorem dJ6_bitCount_0f7a4_43 : decode cJ6_bitCount_0f7a4 43 = .ok (.bipush 16, 2) := by decide +kernel
theorem dJ6_bitCount_0f7a4_45 : decode cJ6_bitCount_0f7a4 45 = .ok (.iushr, 1) := by decide +kernel
theorem dJ6_bitCount_0f7a4_46 : decode cJ6_bitCount_0f7a4 46 = .ok (.iadd, 1) := by decide +kernel
theorem dJ6_bitCount_0f7a4_47 : decode cJ6_bitCount_0f7a4 47 = .ok (.istore_n 0, 1) := by decide +kernel
theorem dJ6_bitCount_0f7a4_48 : decode cJ6_bitCount_0f7a4 48 = .ok (.iload_n 0, 1) := by decide +kernel
theorem dJ6_bitCount_0f7a4_49 : decode cJ6_bitCount_0f7a4 49 = .ok (.bipush 63, 2) := by decide +kernel
theorem dJ6_bitCount_0f7a4_51 : decode cJ6_bitCount_0f7a4 51 = .ok (.iand, 1) := by decide +kernel
theorem dJ6_bitCount_0f7a4_52 : decode cJ6_bitCount_0f7a4 52 = .ok (.ireturn, 1) := by decide +kernel
theorem dJ9_abs_0f7a4_0 : decode cJ9_abs_0f7a4 0 = .ok (.iload_n 0, 1) := by decide +kernel
theorem dJ9_abs_0f7a4_1 : decode cJ9_abs_0f7a4 1 = .ok (.ifCond .ge 8, 3) := by decide +kernel
theorem dJ9_abs_0f7a4_4 : decode cJ9_abs_0f7a4 4 = .ok (.iload_n 0, 1) := by decide +kernel
theorem dJ9_abs_0f7a4_5 : decode cJ9_abs_0f7a4 5 = .ok (.ineg, 1) := by decide +kernel
theorem dJ9_abs_0f7a4_6 : decode cJ9_abs_0f7a4 6 = .ok (.goto 4, 3) := by decide +kernel
theorem dJ9_abs_0f7a4_9 : decode cJ9_abs_0f7a4 9 = .ok (.iload_n 0, 1) := by decide +kernel
theorem dJ9_abs_0f7a4_10 : decode cJ9_abs_0f7a4 10 = .ok (.ireturn, 1) := by decide +kernel
theorem dJ9_max_7cf53_0 : decode cJ9_max_7cf53 0 = .ok (.iload_n 0, 1) := by decide +kernel
theorem dJ9_max_7cf53_1 : decode cJ9_max_7cf53 1 = .ok (.iload_n 1, 1) := by decide +kernel
theorem dJ9_max_7cf53_2 : decode cJ9_max_7cf53 2 = .ok (.if_icmp .lt 7, 3) := by decide +kernel
theorem dJ9_max_7cf53_5 : decode cJ9_max_7cf53 5 = .ok (.iload_n 0, 1) := by decide +kernel
theorem dJ9_max_7cf53_6 : decode cJ9_max_7cf53 6 = .ok (.goto 4, 3) := by decide +kernel
theorem dJ9_max_7cf53_9 : decode cJ9_max_7cf53 9 = .ok (.iload_n 1, 1) := by decide +kernel
theorem dJ9_max_7cf53_10 : decode cJ9_max_7cf53 10 = .ok (.ireturn, 1) := by decide +kernel
theorem dJ9_max_f86c9_0 : decode cJ9_max_f86c9 0 = .ok (.lload_n 0, 1) := by decide +kernel
theorem dJ9_max_f86c9_1 : decode cJ9_max_f86c9 1 = .ok (.lload_n 2, 1) := by decide +kernel
theorem dJ9_max_f86c9_2 : decode cJ9_max_f86c9 2 = .ok (.lcmp, 1) := by decide +kernel
theorem dJ9_max_f86c9_3 : decode cJ9_max_f86c9 3 = .ok (.ifCond .lt 7, 3) := by decide +kernel
theorem dJ9_max_f86c9_6 : decode cJ9_max_f86c9 6 = .ok (.lload_n 0, 1) := by decide +kernel
theorem dJ9_max_f86c9_7 : decode cJ9_max_f86c9 7 = .ok (.goto 4, 3) := by decide +kernel
theorem dJ9_max_f86c9_10 : decode cJ9_max_f86c9 10 = .ok (.lload_n 2, 1) := by decide +kernel
theorem dJ9_max_f86c9_11 : decode cJ9_max_f86c9 11 = .ok (.lreturn, 1) := by decide +kernel
theorem dJ9_min_7cf53_0 : decode cJ9_min_7cf53 0 = .ok (.iload_n 0, 1) := by decide +kernel
theorem dJ9_min_7cf53_1 : decode cJ9_min_7cf53 1 = .ok (.iload_n 1, 1) := by decide +kernel
theorem dJ9_min_7cf53_2 : decode cJ9_min_7cf53 2 = .ok (.if_icmp .gt 7, 3) := by decide +kernel
theorem dJ9_min_7cf53_5 : decode cJ9_min_7cf53 5 = .ok (.iload_n 0, 1) := by decide +kernel
theorem dJ9_min_7cf53_6 : decode cJ9_min_7cf53 6 = .ok (.goto 4, 3) := by decide +kernel
theorem dJ9_min_7cf53_9 : decode cJ9_min_7cf53 9 = .ok (.iload_n 1, 1) := by decide +kernel
theorem dJ9_min_7cf53_10 : decode cJ9_min_7cf53 10 = .ok (.ireturn, 1) := by decide +kernel
theorem dJ0_length_8abf5_0 : decode cJ0_length_8abf5 0 = .ok (.aload_n 0, 1) := by decide +kernel
theorem dJ0_length_8abf5_1 : decode cJ0_length_8abf5 1 = .ok (.getfield 9, 3) := by decide +kernel
theorem dJ0_length_8abf5_4 : decode cJ0_length_8abf5 4 = .ok (.arraylength, 1) := by decide +kernel
theorem dJ0_length_8abf5_5 : decode cJ0_length_8abf5 5 = .ok (.aload_n 0, 1) := by decide +kernel
theorem dJ0_length_8abf5_6 : decode cJ0_length_8abf5 6 = .ok (.invokevirtual 335, 3) := by decide +kernel
theorem dJ0_length_8abf5_9 : decode cJ0_length_8abf5 9 = .ok (.ishr, 1) := by decide +kernel
theorem dJ0_length_8abf5_10 : decode cJ0_length_8abf5 10 = .ok (.ireturn, 1) := by decide +kernel
theorem dJ0_isEmpty_aae02_0 : decode cJ0_isEmpty_aae02 0 = .ok (.aload_n 0, 1) := by decide +kernel
theorem dJ0_isEmpty_aae02_1 : decode cJ0_isEmpty_aae02 1 = .ok (.getfield 9, 3) := by decide +kernel
theorem dJ0_isEmpty_aae02_4 : decode cJ0_isEmpty_aae02 4 = .ok (.arraylength, 1) := by decide +kernel
theorem dJ0_isEmpty_aae02_5 : decode cJ0_isEmpty_aae02 5 = .ok (.ifCond .ne 7, 3) := by decide +kernel
theorem dJ0_isEmpty_aae02_8 : decode cJ0_isEmpty_aae02 8 = .ok (.iconst 1, 1) := by decide +kernel
theorem dJ0_isEmpty_aae02_9 : decode cJ0_isEmpty_aae02 9 = .ok (.goto 4, 3) := by decide +kernel
theorem dJ0_isEmpty_aae02_12 : decode cJ0_isEmpty_aae02 12 = .ok (.iconst 0, 1) := by decide +kernel
theorem dJ0_isEmpty_aae02_13 : decode cJ0_isEmpty_aae02 13 = .ok (.ireturn, 1) := by decide +kernel
theorem dJ0_charAt_5068e_0 : decode cJ0_charAt_5068e 0 = .ok (.aload_n 0, 1) := by decide +kernel
theorem dJ0_charAt_5068e_1 : decode cJ0_charAt_5068e 1 = .ok (.invokevirtual 492, 3) := by decide +kernel
theorem dJ0_charAt_5068e_4 : decode cJ0_charAt_5068e 4 = .ok (.ifCond .eq 12, 3) := by decide +kernel
theorem dJ0_charAt_5068e_7 : decode cJ0_charAt_5068e 7 = .ok (.aload_n 0, 1) := by decide +kernel
theorem dJ0_charAt_5068e_8 : decode cJ0_charAt_5068e 8 = .ok (.getfield 9, 3) := by decide +kernel
theorem dJ0_charAt_5068e_11 : decode cJ0_charAt_5068e 11 = .ok (.iload_n 1, 1) := by decide +kernel
theorem dJ0_charAt_5068e_12 : decode cJ0_charAt_5068e 12 = .ok (.invokestatic 495, 3) := by decide +kernel
theorem dJ0_charAt_5068e_15 : decode cJ0_charAt_5068e 15 = .ok (.ireturn, 1) := by decide +kernel
theorem dJ0_charAt_5068e_16 : decode cJ0_charAt_5068e 16 = .ok (.aload_n 0, 1) := by decide +kernel
theorem dJ0_charAt_5068e_17 : decode cJ0_charAt_5068e 17 = .ok (.getfield 9, 3) := by decide +kernel
theorem dJ0_charAt_5068e_20 : decode cJ0_charAt_5068e 20 = .ok (.iload_n 1, 1) := by decide +kernel
theorem dJ0_charAt_5068e_21 : decode cJ0_charAt_5068e 21 = .ok (.invokestatic 498, 3) := by decide +kernel
theorem dJ0_charAt_5068e_24 : decode cJ0_charAt_5068e 24 = .ok (.ireturn, 1) := by decide +kernel
theorem dJ0_coder_7d493_0 : decode cJ0_coder_7d493 0 = .ok (.getstatic 38, 3) := by decide +kernel
theorem dJ0_coder_7d493_3 : decode cJ0_coder_7d493 3 = .ok (.ifCond .eq 10, 3) := by decide +kernel
theorem dJ0_coder_7d493_6 : decode cJ0_coder_7d493 6 = .ok (.aload_n 0, 1) := by decide +kernel
theorem dJ0_coder_7d493_7 : decode cJ0_coder_7d493 7 = .ok (.getfield 15, 3) := by decide +kernel
theorem dJ0_coder_7d493_10 : decode cJ0_coder_7d493 10 = .ok (.goto 4, 3) := by decide +kernel
theorem dJ0_coder_7d493_13 : decode cJ0_coder_7d493 13 = .ok (.iconst 1, 1) := by decide +kernel
theorem dJ0_coder_7d493_14 : decode cJ0_coder_7d493 14 = .ok (.ireturn, 1) := by decide +kernel
theorem dJ0_isLatin1_aae02_0 : decode cJ0_isLatin1_aae02 0 = .ok (.getstatic 38, 3) := by decide +kernel
theorem dJ0_isLatin1_aae02_3 : decode cJ0_isLatin1_aae02 3 = .ok (.ifCond .eq 14, 3) := by decide +kernel
theorem dJ0_isLatin1_aae02_6 : decode cJ0_isLatin1_aae02 6 = .ok (.aload_n 0, 1) := by decide +kernel
theorem dJ0_isLatin1_aae02_7 : decode cJ0_isLatin1_aae02 7 = .ok (.getfield 15, 3) := by decide +kernel
theorem dJ0_isLatin1_aae02_10 : decode cJ0_isLatin1_aae02 10 = .ok (.ifCond .ne 7, 3) := by decide +kernel
theorem dJ0_isLatin1_aae02_13 : decode cJ0_isLatin1_aae02 13 = .ok (.iconst 1, 1) := by decide +kernel
theorem dJ0_isLatin1_aae02_14 : decode cJ0_isLatin1_aae02 14 = .ok (.goto 4, 3) := by decide +kernel
theorem dJ0_isLatin1_aae02_17 : decode cJ0_isLatin1_aae02 17 = .ok (.iconst 0, 1) := by decide +kernel
theorem dJ0_isLatin1_aae02_18 : decode cJ0_isLatin1_aae02 18 = .ok (.ireturn, 1) := by decide +kernel
theorem dJ0_checkIndex_df160_0 : decode cJ0_checkIndex_df160 0 = .ok (.iload_n 0, 1) := by decide +kernel
theorem dJ0_checkIndex_df160_1 : decode cJ0_checkIndex_df160 1 = .ok (.iload_n 1, 1) := by decide +kernel
theorem dJ0_checkIndex_df160_2 : decode cJ0_checkIndex_df160 2 = .ok (.getstatic 1053, 3) := by decide +kernel
theorem dJ0_checkIndex_df160_5 : decode cJ0_checkIndex_df160 5 = .ok (.invokestatic 1059, 3) := by decide +kernel
theorem dJ0_checkIndex_df160_8 : decode cJ0_checkIndex_df160 8 = .ok (.pop, 1) := by decide +kernel
theorem dJ0_checkIndex_df160_9 : decode cJ0_checkIndex_df160 9 = .ok (.return_, 1) := by decide +kernel
theorem dJ1_charAt_3b067_0 : decode cJ1_charAt_3b067 0 = .ok (.iload_n 1, 1) := by decide +kernel
theorem dJ1_charAt_3b067_1 : decode cJ1_charAt_3b067 1 = .ok (.aload_n 0, 1) := by decide +kernel
theorem dJ1_charAt_3b067_2 : decode cJ1_charAt_3b067 2 = .ok (.arraylength, 1) := by decide +kernel
theorem dJ1_charAt_3b067_3 : decode cJ1_charAt_3b067 3 = .ok (.invokestatic 9, 3) := by decide +kernel
theorem dJ1_charAt_3b067_6 : decode cJ1_charAt_3b067 6 = .ok (.aload_n 0, 1) := by decide +kernel
theorem dJ1_charAt_3b067_7 : decode cJ1_charAt_3b067 7 = .ok (.iload_n 1, 1) := by decide +kernel
theorem dJ1_charAt_3b067_8 : decode cJ1_charAt_3b067 8 = .ok (.baload, 1) := by decide +kernel
theorem dJ1_charAt_3b067_9 : decode cJ1_charAt_3b067 9 = .ok (.sipush 255, 3) := by decide +kernel
theorem dJ1_charAt_3b067_12 : decode cJ1_charAt_3b067 12 = .ok (.iand, 1) := by decide +kernel
theorem dJ1_charAt_3b067_13 : decode cJ1_charAt_3b067 13 = .ok (.i2c, 1) := by decide +kernel
theorem dJ1_charAt_3b067_14 : decode cJ1_charAt_3b067 14 = .ok (.ireturn, 1) := by decide +kernel
theorem dJ2_getChar_3b067_0 : decode cJ2_getChar_3b067 0 = .ok (.getstatic 44, 3) := by decide +kernel
theorem dJ2_getChar_3b067_3 : decode cJ2_getChar_3b067 3 = .ok (.ifCond .ne 25, 3) := by decide +kernel
theorem dJ2_getChar_3b067_6 : decode cJ2_getChar_3b067 6 = .ok (.iload_n 1, 1) := by decide +kernel
theorem dJ2_getChar_3b067_7 : decode cJ2_getChar_3b067 7 = .ok (.ifCond .lt 11, 3) := by decide +kernel
theorem dJ2_getChar_3b067_10 : decode cJ2_getChar_3b067 10 = .ok (.iload_n 1, 1) := by decide +kernel
theorem dJ2_getChar_3b067_11 : decode cJ2_getChar_3b067 11 = .ok (.aload_n 0, 1) := by decide +kernel
theorem dJ2_getChar_3b067_12 : decode cJ2_getChar_3b067 12 = .ok (.invokestatic 48, 3) := by decide +kernel
theorem dJ2_getChar_3b067_15 : decode cJ2_getChar_3b067 15 = .ok (.if_icmp .lt 13, 3) := by decide +kernel
theorem dJ2_getChar_3b067_18 : decode cJ2_getChar_3b067 18 = .ok (.new 52, 3) := by decide +kernel
theorem dJ2_getChar_3b067_21 : decode cJ2_getChar_3b067 21 = .ok (.dup, 1) := by decide +kernel
theorem dJ2_getChar_3b067_22 : decode cJ2_getChar_3b067 22 = .ok (.ldc 54, 2) := by decide +kernel
theorem dJ2_getChar_3b067_24 : decode cJ2_getChar_3b067 24 = .ok (.invokespecial 56, 3) := by decide +kernel
theorem dJ2_getChar_3b067_27 : decode cJ2_getChar_3b067 27 = .ok (.athrow, 1) := by decide +kernel
theorem dJ2_getChar_3b067_28 : decode cJ2_getChar_3b067 28 = .ok (.iload_n 1, 1) := by decide +kernel
theorem dJ2_getChar_3b067_29 : decode cJ2_getChar_3b067 29 = .ok (.iconst 1, 1) := by decide +kernel
theorem dJ2_getChar_3b067_30 : decode cJ2_getChar_3b067 30 = .ok (.ishl, 1) := by decide +kernel
theorem dJ2_getChar_3b067_31 : decode cJ2_getChar_3b067 31 = .ok (.istore_n 1, 1) := by decide +kernel
theorem dJ2_getChar_3b067_32 : decode cJ2_getChar_3b067 32 = .ok (.aload_n 0, 1) := by decide +kernel
theorem dJ2_getChar_3b067_33 : decode cJ2_getChar_3b067 33 = .ok (.iload_n 1, 1) := by decide +kernel
theorem dJ2_getChar_3b067_34 : decode cJ2_getChar_3b067 34 = .ok (.iinc 1 1, 3) := by decide +kernel
theorem dJ2_getChar_3b067_37 : decode cJ2_getChar_3b067 37 = .ok (.baload, 1) := by decide +kernel
theorem dJ2_getChar_3b067_38 : decode cJ2_getChar_3b067 38 = .ok (.sipush 255, 3) := by decide +kernel
theorem dJ2_getChar_3b067_41 : decode cJ2_getChar_3b067 41 = .ok (.iand, 1) := by decide +kernel
theorem dJ2_getChar_3b067_42 : decode cJ2_getChar_3b067 42 = .ok (.getstatic 59, 3) := by decide +kernel
theorem dJ2_getChar_3b067_45 : decode cJ2_getChar_3b067 45 = .ok (.ishl, 1) := by decide +kernel
theorem dJ2_getChar_3b067_46 : decode cJ2_getChar_3b067 46 = .ok (.aload_n 0, 1) := by decide +kernel
theorem dJ2_getChar_3b067_47 : decode cJ2_getChar_3b067 47 = .ok (.iload_n 1, 1) := by decide +kernel
theorem dJ2_getChar_3b067_48 : decode cJ2_getChar_3b067 48 = .ok (.baload, 1) := by decide +kernel
theorem dJ2_getChar_3b067_49 : decode cJ2_getChar_3b067 49 = .ok (.sipush 255, 3) := by decide +kernel
theorem dJ2_getChar_3b067_52 : decode cJ2_getChar_3b067 52 = .ok (.iand, 1) := by decide +kernel
theorem dJ2_getChar_3b067_53 : decode cJ2_getChar_3b067 53 = .ok (.getstatic 63, 3) := by decide +kernel
theorem dJ2_getChar_3b067_56 : decode cJ2_getChar_3b067 56 = .ok (.ishl, 1) := by decide +kernel
theorem dJ2_getChar_3b067_57 : decode cJ2_getChar_3b067 57 = .ok (.ior, 1) := by decide +kernel
theorem dJ2_getChar_3b067_58 : decode cJ2_getChar_3b067 58 = .ok (.i2c, 1) := by decide +kernel
theorem dJ2_getChar_3b067_59 : decode cJ2_getChar_3b067 59 = .ok (.ireturn, 1) := by decide +kernel
theorem dJ2_length_9d52b_0 : decode cJ2_length_9d52b 0 = .ok (.aload_n 0, 1) := by decide +kernel
theorem dJ2_length_9d52b_1 : decode cJ2_length_9d52b 1 = .ok (.arraylength, 1) := by decide +kernel
theorem dJ2_length_9d52b_2 : decode cJ2_length_9d52b 2 = .ok (.iconst 1, 1) := by decide +kernel
theorem dJ2_length_9d52b_3 : decode cJ2_length_9d52b 3 = .ok (.ishr, 1) := by decide +kernel
theorem dJ2_length_9d52b_4 : decode cJ2_length_9d52b 4 = .ok (.ireturn, 1) := by decide +kernel
theorem dJ2_charAt_3b067_0 : decode cJ2_charAt_3b067 0 = .ok (.iload_n 1, 1) := by decide +kernel
theorem dJ2_charAt_3b067_1 : decode cJ2_charAt_3b067 1 = .ok (.aload_n 0, 1) := by decide +kernel
theorem dJ2_charAt_3b067_2 : decode cJ2_charAt_3b067 2 = .ok (.invokestatic 67, 3) := by decide +kernel
theorem dJ2_charAt_3b067_5 : decode cJ2_charAt_3b067 5 = .ok (.aload_n 0, 1) := by decide +kernel
theorem dJ2_charAt_3b067_6 : decode cJ2_charAt_3b067 6 = .ok (.iload_n 1, 1) := by decide +kernel
theorem dJ2_charAt_3b067_7 : decode cJ2_charAt_3b067 7 = .ok (.invokestatic 71, 3) := by decide +kernel
theorem dJ2_charAt_3b067_10 : decode cJ2_charAt_3b067 10 = .ok (.ireturn, 1) := by decide +kernel
theorem dJ2_checkIndex_2214a_0 : decode cJ2_checkIndex_2214a 0 = .ok (.iload_n 0, 1) := by decide +kernel
theorem dJ2_checkIndex_2214a_1 : decode cJ2_checkIndex_2214a 1 = .ok (.aload_n 1, 1) := by decide +kernel
theorem dJ2_checkIndex_2214a_2 : decode cJ2_checkIndex_2214a 2 = .ok (.invokestatic 48, 3) := by decide +kernel
theorem dJ2_checkIndex_2214a_5 : decode cJ2_checkIndex_2214a 5 = .ok (.invokestatic 414, 3) := by decide +kernel
theorem dJ2_checkIndex_2214a_8 : decode cJ2_checkIndex_2214a 8 = .ok (.return_, 1) := by decide +kernel
theorem dJ7_fill_d0a16_0 : decode cJ7_fill_d0a16 0 = .ok (.iconst 0, 1) := by decide +kernel
theorem dJ7_fill_d0a16_1 : decode cJ7_fill_d0a16 1 = .ok (.istore_n 3, 1) := by decide +kernel
theorem dJ7_fill_d0a16_2 : decode cJ7_fill_d0a16 2 = .ok (.aload_n 0, 1) := by decide +kernel
theorem dJ7_fill_d0a16_3 : decode cJ7_fill_d0a16 3 = .ok (.arraylength, 1) := by decide +kernel
theorem dJ7_fill_d0a16_4 : decode cJ7_fill_d0a16 4 = .ok (.istore 4, 2) := by decide +kernel
theorem dJ7_fill_d0a16_6 : decode cJ7_fill_d0a16 6 = .ok (.iload_n 3, 1) := by decide +kernel
theorem dJ7_fill_d0a16_7 : decode cJ7_fill_d0a16 7 = .ok (.iload 4, 2) := by decide +kernel
theorem dJ7_fill_d0a16_9 : decode cJ7_fill_d0a16 9 = .ok (.if_icmp .ge 13, 3) := by decide +kernel
theorem dJ7_fill_d0a16_12 : decode cJ7_fill_d0a16 12 = .ok (.aload_n 0, 1) := by decide +kernel
theorem dJ7_fill_d0a16_13 : decode cJ7_fill_d0a16 13 = .ok (.iload_n 3, 1) := by decide +kernel
theorem dJ7_fill_d0a16_14 : decode cJ7_fill_d0a16 14 = .ok (.lload_n 1, 1) := by decide +kernel
theorem dJ7_fill_d0a16_15 : decode cJ7_fill_d0a16 15 = .ok (.lastore, 1) := by decide +kernel
theorem dJ7_fill_d0a16_16 : decode cJ7_fill_d0a16 16 = .ok (.iinc 3 1, 3) := by decide +kernel
theorem dJ7_fill_d0a16_19 : decode cJ7_fill_d0a16 19 = .ok (.goto (-13), 3) := by decide +kernel
theorem dJ7_fill_d0a16_22 : decode cJ7_fill_d0a16 22 = .ok (.return_, 1) := by decide +kernel
theorem dJ3_checkIndex_8e157_0 : decode cJ3_checkIndex_8e157 0 = .ok (.iload_n 0, 1) := by decide +kernel
theorem dJ3_checkIndex_8e157_1 : decode cJ3_checkIndex_8e157 1 = .ok (.ifCond .lt 8, 3) := by decide +kernel
theorem dJ3_checkIndex_8e157_4 : decode cJ3_checkIndex_8e157 4 = .ok (.iload_n 0, 1) := by decide +kernel
theorem dJ3_checkIndex_8e157_5 : decode cJ3_checkIndex_8e157 5 = .ok (.iload_n 1, 1) := by decide +kernel
theorem dJ3_checkIndex_8e157_6 : decode cJ3_checkIndex_8e157 6 = .ok (.if_icmp .lt 10, 3) := by decide +kernel
theorem dJ3_checkIndex_8e157_9 : decode cJ3_checkIndex_8e157 9 = .ok (.aload_n 2, 1) := by decide +kernel
theorem dJ3_checkIndex_8e157_10 : decode cJ3_checkIndex_8e157 10 = .ok (.iload_n 0, 1) := by decide +kernel
theorem dJ3_checkIndex_8e157_11 : decode cJ3_checkIndex_8e157 11 = .ok (.iload_n 1, 1) := by decide +kernel
theorem dJ3_checkIndex_8e157_12 : decode cJ3_checkIndex_8e157 12 = .ok (.invokestatic 95, 3) := by decide +kernel
theorem dJ3_checkIndex_8e157_15 : decode cJ3_checkIndex_8e157 15 = .ok (.athrow, 1) := by decide +kernel
theorem dJ3_checkIndex_8e157_16 : decode cJ3_checkIndex_8e157 16 = .ok (.iload_n 0, 1) := by decide +kernel
theorem dJ3_checkIndex_8e157_17 : decode cJ3_checkIndex_8e157 17 = .ok (.ireturn, 1) := by decide +kernel
