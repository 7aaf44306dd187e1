/-! Every method holds: 315 to 418. -/
set_option maxRecDepth 1000000 in
theorem mt_315 : mthC2 315 = true := by decide +kernel
set_option maxRecDepth 1000000 in
theorem mt_316 : mthC2 316 = true := by decide +kernel
set_option maxRecDepth 1000000 in
theorem mt_317 : mthC2 317 = true := by decide +kernel
set_option maxRecDepth 1000000 in
theorem mt_318 : mthC2 318 = true := by decide +kernel
set_option maxRecDepth 1000000 in
theorem mt_319 : mthC2 319 = true := by decide +kernel
set_option maxRecDepth 1000000 in
theorem mt_320 : mthC2 320 = true := by decide +kernel
set_option maxRecDepth 1000000 in
theorem mt_321 : mthC2 321 = true := by decide +kernel
set_option maxRecDepth 1000000 in
theorem mt_322 : mthC2 322 = true := by decide +kernel
set_option maxRecDepth 1000000 in
theorem mt_323 : mthC2 323 = true := by decide +kernel
set_option maxRecDepth 1000000 in
theorem mt_324 : mthC2 324 = true := by decide +kernel
set_option maxRecDepth 1000000 in
theorem mt_325 : mthC2 325 = true := by decide +kernel
set_option maxRecDepth 1000000 in
theorem mt_326 : mthC2 326 = true := by decide +kernel
set_option maxRecDepth 1000000 in
theorem mt_327 : mthC2 327 = true := by decide +kernel
set_option maxRecDepth 1000000 in
theorem mt_328 : mthC2 328 = true := by decide +kernel
set_option maxRecDepth 1000000 in
theorem mt_329 : mthC2 329 = true := by decide +kernel
set_option maxRecDepth 1000000 in
theorem mt_330 : mthC2 330 = true := by decide +kernel
set_option maxRecDepth 1000000 in
theorem mt_331 : mthC2 331 = true := by decide +kernel
set_option maxRecDepth 1000000 in
theorem mt_332 : mthC2 332 = true := by decide +kernel
set_option maxRecDepth 1000000 in
theorem mt_333 : mthC2 333 = true := by decide +kernel
set_option maxRecDepth 1000000 in
theorem mt_334 : mthC2 334 = true := by decide +kernel
set_option maxRecDepth 1000000 in
theorem mt_335 : mthC2 335 = true := by decide +kernel
set_option maxRecDepth 1000000 in
theorem mt_336 : mthC2 336 = true := by decide +kernel
set_option maxRecDepth 1000000 in
theorem mt_337 : mthC2 337 = true := by decide +kernel
set_option maxRecDepth 1000000 in
theorem mt_338 : mthC2 338 = true := by decide +kernel
set_option maxRecDepth 1000000 in
theorem mt_339 : mthC2 339 = true := by decide +kernel
set_option maxRecDepth 1000000 in
theorem mt_340 : mthC2 340 = true := by decide +kernel
set_option maxRecDepth 1000000 in
theorem mt_341 : mthC2 341 = true := by decide +kernel
set_option maxRecDepth 1000000 in
theorem mt_342 : mthC2 342 = true := by decide +kernel
set_option maxRecDepth 1000000 in
theorem mt_343 : mthC2 343 = true := by decide +kernel
set_option maxRecDepth 1000000 in
theorem mt_344 : mthC2 344 = true := by decide +kernel
set_option maxRecDepth 1000000 in
theorem mt_345 : mthC2 345 = true := by decide +kernel
set_option maxRecDepth 1000000 in
theorem mt_346 : mthC2 346 = true := by decide +kernel
set_option maxRecDepth 1000000 in
theorem mt_347 : mthC2 347 = true := by decide +kernel
set_option maxRecDepth 1000000 in
theorem mt_348 : mthC2 348 = true := by decide +kernel
set_option maxRecDepth 1000000 in
theorem mt_349 : mthC2 349 = true := by decide +kernel
set_option maxRecDepth 1000000 in
theorem mt_350 : mthC2 350 = true := by decide +kernel
set_option maxRecDepth 1000000 in
theorem mt_351 : mthC2 351 = true := by decide +kernel
set_option maxRecDepth 1000000 in
theorem mt_352 : mthC2 352 = true := by decide +kernel
set_option maxRecDepth 1000000 in
theorem mt_353 : mthC2 353 = true := by decide +kernel
set_option maxRecDepth 1000000 in
theorem mt_354 : mthC2 354 = true := by decide +kernel
set_option maxRecDepth 1000000 in
theorem mt_355 : mthC2 355 = true := by decide +kernel
set_option maxRecDepth 1000000 in
theorem mt_356 : mthC2 356 = true := by decide +kernel
set_option maxRecDepth 1000000 in
theorem mt_357 : mthC2 357 = true := by decide +kernel
set_option maxRecDepth 1000000 in
theorem mt_358 : mthC2 358 = true := by decide +kernel
set_option maxRecDepth 1000000 in
theorem mt_359 : mthC2 359 = true := by decide +kernel
set_option maxRecDepth 1000000 in
theorem mt_360 : mthC2 360 = true := by decide +kernel
set_option maxRecDepth 1000000 in
theorem mt_361 : mthC2 361 = true := by decide +kernel
set_option maxRecDepth 1000000 in
theorem mt_362 : mthC2 362 = true := by decide +kernel
set_option maxRecDepth 1000000 in
theorem mt_363 : mthC2 363 = true := by decide +kernel
set_option maxRecDepth 1000000 in
theorem mt_364 : mthC2 364 = true := by decide +kernel
set_option maxRecDepth 1000000 in
theorem mt_365 : mthC2 365 = true := by decide +kernel
set_option maxRecDepth 1000000 in
theorem mt_366 : mthC2 366 = true := by decide +kernel
set_option maxRecDepth 1000000 in
theorem mt_367 : mthC2 367 = true := by decide +kernel
set_option maxRecDepth 1000000 in
theorem mt_368 : mthC2 368 = true := by decide +kernel
set_option maxRecDepth 1000000 in
theorem mt_369 : mthC2 369 = true := by decide +kernel
set_option maxRecDepth 1000000 in
theorem mt_370 : mthC2 370 = true := by decide +kernel
set_option maxRecDepth 1000000 in
theorem mt_371 : mthC2 371 = true := by decide +kernel
set_option maxRecDepth 1000000 in
theorem mt_372 : mthC2 372 = true := by decide +kernel
set_option maxRecDepth 1000000 in
theorem mt_373 : mthC2 373 = true := by decide +kernel
set_option maxRecDepth 1000000 in
theorem mt_374 : mthC2 374 = true := by decide +kernel
set_option maxRecDepth 1000000 in
theorem mt_375 : mthC2 375 = true := by decide +kernel
set_option maxRecDepth 1000000 in
theorem mt_376 : mthC2 376 = true := by decide +kernel
set_option maxRecDepth 1000000 in
theorem mt_377 : mthC2 377 = true := by decide +kernel
set_option maxRecDepth 1000000 in
theorem mt_378 : mthC2 378 = true := by decide +kernel
set_option maxRecDepth 1000000 in
theorem mt_379 : mthC2 379 = true := by decide +kernel
set_option maxRecDepth 1000000 in
theorem mt_380 : mthC2 380 = true := by decide +kernel
set_option maxRecDepth 1000000 in
theorem mt_381 : mthC2 381 = true := by decide +kernel
set_option maxRecDepth 1000000 in
theorem mt_382 : mthC2 382 = true := by decide +kernel
set_option maxRecDepth 1000000 in
theorem mt_383 : mthC2 383 = true := by decide +kernel
set_option maxRecDepth 1000000 in
theorem mt_384 : mthC2 384 = true := by decide +kernel
set_option maxRecDepth 1000000 in
theorem mt_385 : mthC2 385 = true := by decide +kernel
set_option maxRecDepth 1000000 in
theorem mt_386 : mthC2 386 = true := by decide +kernel
set_option maxRecDepth 1000000 in
theorem mt_387 : mthC2 387 = true := by decide +kernel
set_option maxRecDepth 1000000 in
theorem mt_388 : mthC2 388 = true := by decide +kernel
set_option maxRecDepth 1000000 in
theorem mt_389 : mthC2 389 = true := by decide +kernel
set_option maxRecDepth 1000000 in
theorem mt_390 : mthC2 390 = true := by decide +kernel
set_option maxRecDepth 1000000 in
theorem mt_391 : mthC2 391 = true := by decide +kernel
set_option maxRecDepth 1000000 in
theorem mt_392 : mthC2 392 = true := by decide +kernel
set_option maxRecDepth 1000000 in
theorem mt_393 : mthC2 393 = true := by decide +kernel
set_option maxRecDepth 1000000 in
theorem mt_394 : mthC2 394 = true := by decide +kernel
set_option maxRecDepth 1000000 in
theorem mt_395 : mthC2 395 = true := by decide +kernel
set_option maxRecDepth 1000000 in
theorem mt_396 : mthC2 396 = true := by decide +kernel
set_option maxRecDepth 1000000 in
theorem mt_397 : mthC2 397 = true := by decide +kernel
set_option maxRecDepth 1000000 in
theorem mt_398 : mthC2 398 = true := by decide +kernel
set_option maxRecDepth 1000000 in
theorem mt_399 : mthC2 399 = true := by decide +kernel
set_option maxRecDepth 1000000 in
theorem mt_400 : mthC2 400 = true := by decide +kernel
set_option maxRecDepth 1000000 in
theorem mt_401 : mthC2 401 = true := by decide +kernel
set_option maxRecDepth 1000000 in
theorem mt_402 : mthC2 402 = true := by decide +kernel
set_option maxRecDepth 1000000 in
theorem mt_403 : mthC2 403 = true := by decide +kernel
set_option maxRecDepth 1000000 in
theorem mt_404 : mthC2 404 = true := by decide +kernel
set_option maxRecDepth 1000000 in
theorem mt_405 : mthC2 405 = true := by decide +kernel
set_option maxRecDepth 1000000 in
theorem mt_406 : mthC2 406 = true := by decide +kernel
set_option maxRecDepth 1000000 in
theorem mt_407 : mthC2 407 = true := by decide +kernel
set_option maxRecDepth 1000000 in
theorem mt_408 : mthC2 408 = true := by decide +kernel
set_option maxRecDepth 1000000 in
theorem mt_409 : mthC2 409 = true := by decide +kernel
set_option maxRecDepth 1000000 in
theorem mt_410 : mthC2 410 = true := by decide +kernel
set_option maxRecDepth 1000000 in
theorem mt_411 : mthC2 411 = true := by decide +kernel
set_option maxRecDepth 1000000 in
theorem mt_412 : mthC2 412 = true := by decide +kernel
set_option maxRecDepth 1000000 in
theorem mt_413 : mthC2 413 = true := by decide +kernel
set_option maxRecDepth 1000000 in
theorem mt_414 : mthC2 414 = true := by decide +kernel
set_option maxRecDepth 1000000 in
theorem mt_415 : mthC2 415 = true := by decide +kernel
set_option maxRecDepth 1000000 in
theorem mt_416 : mthC2 416 = true := by decide +kernel
set_option maxRecDepth 1000000 in
theorem mt_417 : mthC2 417 = true := by decide +kernel
set_option maxRecDepth 1000000 in
theorem mt_418 : mthC2 418 = true := by decide +kernel
