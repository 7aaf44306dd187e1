/-! Every method holds: 315 to 419. -/
set_option maxRecDepth 1000000 in
theorem mh9_315 : mthC2 315 = true := by decide +kernel
set_option maxRecDepth 1000000 in
theorem mh9_316 : mthC2 316 = true := by decide +kernel
set_option maxRecDepth 1000000 in
theorem mh9_317 : mthC2 317 = true := by decide +kernel
set_option maxRecDepth 1000000 in
theorem mh9_318 : mthC2 318 = true := by decide +kernel
set_option maxRecDepth 1000000 in
theorem mh9_319 : mthC2 319 = true := by decide +kernel
set_option maxRecDepth 1000000 in
theorem mh9_320 : mthC2 320 = true := by decide +kernel
set_option maxRecDepth 1000000 in
theorem mh9_321 : mthC2 321 = true := by decide +kernel
set_option maxRecDepth 1000000 in
theorem mh9_322 : mthC2 322 = true := by decide +kernel
set_option maxRecDepth 1000000 in
theorem mh9_323 : mthC2 323 = true := by decide +kernel
set_option maxRecDepth 1000000 in
theorem mh9_324 : mthC2 324 = true := by decide +kernel
set_option maxRecDepth 1000000 in
theorem mh9_325 : mthC2 325 = true := by decide +kernel
set_option maxRecDepth 1000000 in
theorem mh9_326 : mthC2 326 = true := by decide +kernel
set_option maxRecDepth 1000000 in
theorem mh9_327 : mthC2 327 = true := by decide +kernel
set_option maxRecDepth 1000000 in
theorem mh9_328 : mthC2 328 = true := by decide +kernel
set_option maxRecDepth 1000000 in
theorem mh9_329 : mthC2 329 = true := by decide +kernel
set_option maxRecDepth 1000000 in
theorem mh9_330 : mthC2 330 = true := by decide +kernel
set_option maxRecDepth 1000000 in
theorem mh9_331 : mthC2 331 = true := by decide +kernel
set_option maxRecDepth 1000000 in
theorem mh9_332 : mthC2 332 = true := by decide +kernel
set_option maxRecDepth 1000000 in
theorem mh9_333 : mthC2 333 = true := by decide +kernel
set_option maxRecDepth 1000000 in
theorem mh9_334 : mthC2 334 = true := by decide +kernel
set_option maxRecDepth 1000000 in
theorem mh9_335 : mthC2 335 = true := by decide +kernel
set_option maxRecDepth 1000000 in
theorem mh9_336 : mthC2 336 = true := by decide +kernel
set_option maxRecDepth 1000000 in
theorem mh9_337 : mthC2 337 = true := by decide +kernel
set_option maxRecDepth 1000000 in
theorem mh9_338 : mthC2 338 = true := by decide +kernel
set_option maxRecDepth 1000000 in
theorem mh9_339 : mthC2 339 = true := by decide +kernel
set_option maxRecDepth 1000000 in
theorem mh9_340 : mthC2 340 = true := by decide +kernel
set_option maxRecDepth 1000000 in
theorem mh9_341 : mthC2 341 = true := by decide +kernel
set_option maxRecDepth 1000000 in
theorem mh9_342 : mthC2 342 = true := by decide +kernel
set_option maxRecDepth 1000000 in
theorem mh9_343 : mthC2 343 = true := by decide +kernel
set_option maxRecDepth 1000000 in
theorem mh9_344 : mthC2 344 = true := by decide +kernel
set_option maxRecDepth 1000000 in
theorem mh9_345 : mthC2 345 = true := by decide +kernel
set_option maxRecDepth 1000000 in
theorem mh9_346 : mthC2 346 = true := by decide +kernel
set_option maxRecDepth 1000000 in
theorem mh9_347 : mthC2 347 = true := by decide +kernel
set_option maxRecDepth 1000000 in
theorem mh9_348 : mthC2 348 = true := by decide +kernel
set_option maxRecDepth 1000000 in
theorem mh9_349 : mthC2 349 = true := by decide +kernel
set_option maxRecDepth 1000000 in
theorem mh9_350 : mthC2 350 = true := by decide +kernel
set_option maxRecDepth 1000000 in
theorem mh9_351 : mthC2 351 = true := by decide +kernel
set_option maxRecDepth 1000000 in
theorem mh9_352 : mthC2 352 = true := by decide +kernel
set_option maxRecDepth 1000000 in
theorem mh9_353 : mthC2 353 = true := by decide +kernel
set_option maxRecDepth 1000000 in
theorem mh9_354 : mthC2 354 = true := by decide +kernel
set_option maxRecDepth 1000000 in
theorem mh9_355 : mthC2 355 = true := by decide +kernel
set_option maxRecDepth 1000000 in
theorem mh9_356 : mthC2 356 = true := by decide +kernel
set_option maxRecDepth 1000000 in
theorem mh9_357 : mthC2 357 = true := by decide +kernel
set_option maxRecDepth 1000000 in
theorem mh9_358 : mthC2 358 = true := by decide +kernel
set_option maxRecDepth 1000000 in
theorem mh9_359 : mthC2 359 = true := by decide +kernel
set_option maxRecDepth 1000000 in
theorem mh9_360 : mthC2 360 = true := by decide +kernel
set_option maxRecDepth 1000000 in
theorem mh9_361 : mthC2 361 = true := by decide +kernel
set_option maxRecDepth 1000000 in
theorem mh9_362 : mthC2 362 = true := by decide +kernel
set_option maxRecDepth 1000000 in
theorem mh9_363 : mthC2 363 = true := by decide +kernel
set_option maxRecDepth 1000000 in
theorem mh9_364 : mthC2 364 = true := by decide +kernel
set_option maxRecDepth 1000000 in
theorem mh9_365 : mthC2 365 = true := by decide +kernel
set_option maxRecDepth 1000000 in
theorem mh9_366 : mthC2 366 = true := by decide +kernel
set_option maxRecDepth 1000000 in
theorem mh9_367 : mthC2 367 = true := by decide +kernel
set_option maxRecDepth 1000000 in
theorem mh9_368 : mthC2 368 = true := by decide +kernel
set_option maxRecDepth 1000000 in
theorem mh9_369 : mthC2 369 = true := by decide +kernel
set_option maxRecDepth 1000000 in
theorem mh9_370 : mthC2 370 = true := by decide +kernel
set_option maxRecDepth 1000000 in
theorem mh9_371 : mthC2 371 = true := by decide +kernel
set_option maxRecDepth 1000000 in
theorem mh9_372 : mthC2 372 = true := by decide +kernel
set_option maxRecDepth 1000000 in
theorem mh9_373 : mthC2 373 = true := by decide +kernel
set_option maxRecDepth 1000000 in
theorem mh9_374 : mthC2 374 = true := by decide +kernel
set_option maxRecDepth 1000000 in
theorem mh9_375 : mthC2 375 = true := by decide +kernel
set_option maxRecDepth 1000000 in
theorem mh9_376 : mthC2 376 = true := by decide +kernel
set_option maxRecDepth 1000000 in
theorem mh9_377 : mthC2 377 = true := by decide +kernel
set_option maxRecDepth 1000000 in
theorem mh9_378 : mthC2 378 = true := by decide +kernel
set_option maxRecDepth 1000000 in
theorem mh9_379 : mthC2 379 = true := by decide +kernel
set_option maxRecDepth 1000000 in
theorem mh9_380 : mthC2 380 = true := by decide +kernel
set_option maxRecDepth 1000000 in
theorem mh9_381 : mthC2 381 = true := by decide +kernel
set_option maxRecDepth 1000000 in
theorem mh9_382 : mthC2 382 = true := by decide +kernel
set_option maxRecDepth 1000000 in
theorem mh9_383 : mthC2 383 = true := by decide +kernel
set_option maxRecDepth 1000000 in
theorem mh9_384 : mthC2 384 = true := by decide +kernel
set_option maxRecDepth 1000000 in
theorem mh9_385 : mthC2 385 = true := by decide +kernel
set_option maxRecDepth 1000000 in
theorem mh9_386 : mthC2 386 = true := by decide +kernel
set_option maxRecDepth 1000000 in
theorem mh9_387 : mthC2 387 = true := by decide +kernel
set_option maxRecDepth 1000000 in
theorem mh9_388 : mthC2 388 = true := by decide +kernel
set_option maxRecDepth 1000000 in
theorem mh9_389 : mthC2 389 = true := by decide +kernel
set_option maxRecDepth 1000000 in
theorem mh9_390 : mthC2 390 = true := by decide +kernel
set_option maxRecDepth 1000000 in
theorem mh9_391 : mthC2 391 = true := by decide +kernel
set_option maxRecDepth 1000000 in
theorem mh9_392 : mthC2 392 = true := by decide +kernel
set_option maxRecDepth 1000000 in
theorem mh9_393 : mthC2 393 = true := by decide +kernel
set_option maxRecDepth 1000000 in
theorem mh9_394 : mthC2 394 = true := by decide +kernel
set_option maxRecDepth 1000000 in
theorem mh9_395 : mthC2 395 = true := by decide +kernel
set_option maxRecDepth 1000000 in
theorem mh9_396 : mthC2 396 = true := by decide +kernel
set_option maxRecDepth 1000000 in
theorem mh9_397 : mthC2 397 = true := by decide +kernel
set_option maxRecDepth 1000000 in
theorem mh9_398 : mthC2 398 = true := by decide +kernel
set_option maxRecDepth 1000000 in
theorem mh9_399 : mthC2 399 = true := by decide +kernel
set_option maxRecDepth 1000000 in
theorem mh9_400 : mthC2 400 = true := by decide +kernel
set_option maxRecDepth 1000000 in
theorem mh9_401 : mthC2 401 = true := by decide +kernel
set_option maxRecDepth 1000000 in
theorem mh9_402 : mthC2 402 = true := by decide +kernel
set_option maxRecDepth 1000000 in
theorem mh9_403 : mthC2 403 = true := by decide +kernel
set_option maxRecDepth 1000000 in
theorem mh9_404 : mthC2 404 = true := by decide +kernel
set_option maxRecDepth 1000000 in
theorem mh9_405 : mthC2 405 = true := by decide +kernel
set_option maxRecDepth 1000000 in
theorem mh9_406 : mthC2 406 = true := by decide +kernel
set_option maxRecDepth 1000000 in
theorem mh9_407 : mthC2 407 = true := by decide +kernel
set_option maxRecDepth 1000000 in
theorem mh9_408 : mthC2 408 = true := by decide +kernel
set_option maxRecDepth 1000000 in
theorem mh9_409 : mthC2 409 = true := by decide +kernel
set_option maxRecDepth 1000000 in
theorem mh9_410 : mthC2 410 = true := by decide +kernel
set_option maxRecDepth 1000000 in
theorem mh9_411 : mthC2 411 = true := by decide +kernel
set_option maxRecDepth 1000000 in
theorem mh9_412 : mthC2 412 = true := by decide +kernel
set_option maxRecDepth 1000000 in
theorem mh9_413 : mthC2 413 = true := by decide +kernel
set_option maxRecDepth 1000000 in
theorem mh9_414 : mthC2 414 = true := by decide +kernel
set_option maxRecDepth 1000000 in
theorem mh9_415 : mthC2 415 = true := by decide +kernel
set_option maxRecDepth 1000000 in
theorem mh9_416 : mthC2 416 = true := by decide +kernel
set_option maxRecDepth 1000000 in
theorem mh9_417 : mthC2 417 = true := by decide +kernel
set_option maxRecDepth 1000000 in
theorem mh9_418 : mthC2 418 = true := by decide +kernel
set_option maxRecDepth 1000000 in
theorem mh9_419 : mthC2 419 = true := by decide +kernel
