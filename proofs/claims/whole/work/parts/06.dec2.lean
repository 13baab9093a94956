theorem dX7_init_192 : decode cX7_init 192 = .ok (.dup, 1) := by decide +kernel
theorem dX7_init_193 : decode cX7_init 193 = .ok (.bipush 9, 2) := by decide +kernel
theorem dX7_init_195 : decode cX7_init 195 = .ok (.sipush 413, 3) := by decide +kernel
theorem dX7_init_198 : decode cX7_init 198 = .ok (.iastore, 1) := by decide +kernel
theorem dX7_init_199 : decode cX7_init 199 = .ok (.dup, 1) := by decide +kernel
theorem dX7_init_200 : decode cX7_init 200 = .ok (.bipush 10, 2) := by decide +kernel
theorem dX7_init_202 : decode cX7_init 202 = .ok (.sipush 445, 3) := by decide +kernel
theorem dX7_init_205 : decode cX7_init 205 = .ok (.iastore, 1) := by decide +kernel
theorem dX7_init_206 : decode cX7_init 206 = .ok (.dup, 1) := by decide +kernel
theorem dX7_init_207 : decode cX7_init 207 = .ok (.bipush 11, 2) := by decide +kernel
theorem dX7_init_209 : decode cX7_init 209 = .ok (.sipush 475, 3) := by decide +kernel
theorem dX7_init_212 : decode cX7_init 212 = .ok (.iastore, 1) := by decide +kernel
theorem dX7_init_213 : decode cX7_init 213 = .ok (.dup, 1) := by decide +kernel
theorem dX7_init_214 : decode cX7_init 214 = .ok (.bipush 12, 2) := by decide +kernel
theorem dX7_init_216 : decode cX7_init 216 = .ok (.sipush 502, 3) := by decide +kernel
theorem dX7_init_219 : decode cX7_init 219 = .ok (.iastore, 1) := by decide +kernel
theorem dX7_init_220 : decode cX7_init 220 = .ok (.dup, 1) := by decide +kernel
theorem dX7_init_221 : decode cX7_init 221 = .ok (.bipush 13, 2) := by decide +kernel
theorem dX7_init_223 : decode cX7_init 223 = .ok (.sipush 528, 3) := by decide +kernel
theorem dX7_init_226 : decode cX7_init 226 = .ok (.iastore, 1) := by decide +kernel
theorem dX7_init_227 : decode cX7_init 227 = .ok (.dup, 1) := by decide +kernel
theorem dX7_init_228 : decode cX7_init 228 = .ok (.bipush 14, 2) := by decide +kernel
theorem dX7_init_230 : decode cX7_init 230 = .ok (.sipush 553, 3) := by decide +kernel
theorem dX7_init_233 : decode cX7_init 233 = .ok (.iastore, 1) := by decide +kernel
theorem dX7_init_234 : decode cX7_init 234 = .ok (.putfield 29, 3) := by decide +kernel
theorem dX7_init_237 : decode cX7_init 237 = .ok (.aload_n 0, 1) := by decide +kernel
theorem dX7_init_238 : decode cX7_init 238 = .ok (.iconst 2, 1) := by decide +kernel
theorem dX7_init_239 : decode cX7_init 239 = .ok (.newarray .int, 2) := by decide +kernel
theorem dX7_init_241 : decode cX7_init 241 = .ok (.dup, 1) := by decide +kernel
theorem dX7_init_242 : decode cX7_init 242 = .ok (.iconst 0, 1) := by decide +kernel
theorem dX7_init_243 : decode cX7_init 243 = .ok (.bipush 116, 2) := by decide +kernel
theorem dX7_init_245 : decode cX7_init 245 = .ok (.iastore, 1) := by decide +kernel
theorem dX7_init_246 : decode cX7_init 246 = .ok (.dup, 1) := by decide +kernel
theorem dX7_init_247 : decode cX7_init 247 = .ok (.iconst 1, 1) := by decide +kernel
theorem dX7_init_248 : decode cX7_init 248 = .ok (.sipush 365, 3) := by decide +kernel
theorem dX7_init_251 : decode cX7_init 251 = .ok (.iastore, 1) := by decide +kernel
theorem dX7_init_252 : decode cX7_init 252 = .ok (.putfield 32, 3) := by decide +kernel
theorem dX7_init_255 : decode cX7_init 255 = .ok (.aload_n 0, 1) := by decide +kernel
theorem dX7_init_256 : decode cX7_init 256 = .ok (.iconst 4, 1) := by decide +kernel
theorem dX7_init_257 : decode cX7_init 257 = .ok (.newarray .int, 2) := by decide +kernel
theorem dX7_init_259 : decode cX7_init 259 = .ok (.dup, 1) := by decide +kernel
theorem dX7_init_260 : decode cX7_init 260 = .ok (.iconst 0, 1) := by decide +kernel
theorem dX7_init_261 : decode cX7_init 261 = .ok (.sipush (-2048), 3) := by decide +kernel
theorem dX7_init_264 : decode cX7_init 264 = .ok (.iastore, 1) := by decide +kernel
theorem dX7_init_265 : decode cX7_init 265 = .ok (.dup, 1) := by decide +kernel
theorem dX7_init_266 : decode cX7_init 266 = .ok (.iconst 1, 1) := by decide +kernel
theorem dX7_init_267 : decode cX7_init 267 = .ok (.sipush 135, 3) := by decide +kernel
theorem dX7_init_270 : decode cX7_init 270 = .ok (.iastore, 1) := by decide +kernel
theorem dX7_init_271 : decode cX7_init 271 = .ok (.dup, 1) := by decide +kernel
theorem dX7_init_272 : decode cX7_init 272 = .ok (.iconst 2, 1) := by decide +kernel
theorem dX7_init_273 : decode cX7_init 273 = .ok (.sipush 273, 3) := by decide +kernel
theorem dX7_init_276 : decode cX7_init 276 = .ok (.iastore, 1) := by decide +kernel
theorem dX7_init_277 : decode cX7_init 277 = .ok (.dup, 1) := by decide +kernel
theorem dX7_init_278 : decode cX7_init 278 = .ok (.iconst 3, 1) := by decide +kernel
theorem dX7_init_279 : decode cX7_init 279 = .ok (.sipush 373, 3) := by decide +kernel
theorem dX7_init_282 : decode cX7_init 282 = .ok (.iastore, 1) := by decide +kernel
theorem dX7_init_283 : decode cX7_init 283 = .ok (.putfield 35, 3) := by decide +kernel
theorem dX7_init_286 : decode cX7_init 286 = .ok (.aload_n 0, 1) := by decide +kernel
theorem dX7_init_287 : decode cX7_init 287 = .ok (.bipush 8, 2) := by decide +kernel
theorem dX7_init_289 : decode cX7_init 289 = .ok (.newarray .int, 2) := by decide +kernel
theorem dX7_init_291 : decode cX7_init 291 = .ok (.dup, 1) := by decide +kernel
theorem dX7_init_292 : decode cX7_init 292 = .ok (.iconst 0, 1) := by decide +kernel
theorem dX7_init_293 : decode cX7_init 293 = .ok (.sipush (-2048), 3) := by decide +kernel
theorem dX7_init_296 : decode cX7_init 296 = .ok (.iastore, 1) := by decide +kernel
theorem dX7_init_297 : decode cX7_init 297 = .ok (.dup, 1) := by decide +kernel
theorem dX7_init_298 : decode cX7_init 298 = .ok (.iconst 1, 1) := by decide +kernel
theorem dX7_init_299 : decode cX7_init 299 = .ok (.iconst 4, 1) := by decide +kernel
theorem dX7_init_300 : decode cX7_init 300 = .ok (.iastore, 1) := by decide +kernel
theorem dX7_init_301 : decode cX7_init 301 = .ok (.dup, 1) := by decide +kernel
theorem dX7_init_302 : decode cX7_init 302 = .ok (.iconst 2, 1) := by decide +kernel
theorem dX7_init_303 : decode cX7_init 303 = .ok (.sipush 135, 3) := by decide +kernel
theorem dX7_init_306 : decode cX7_init 306 = .ok (.iastore, 1) := by decide +kernel
theorem dX7_init_307 : decode cX7_init 307 = .ok (.dup, 1) := by decide +kernel
theorem dX7_init_308 : decode cX7_init 308 = .ok (.iconst 3, 1) := by decide +kernel
theorem dX7_init_309 : decode cX7_init 309 = .ok (.sipush 213, 3) := by decide +kernel
theorem dX7_init_312 : decode cX7_init 312 = .ok (.iastore, 1) := by decide +kernel
theorem dX7_init_313 : decode cX7_init 313 = .ok (.dup, 1) := by decide +kernel
theorem dX7_init_314 : decode cX7_init 314 = .ok (.iconst 4, 1) := by decide +kernel
theorem dX7_init_315 : decode cX7_init 315 = .ok (.sipush 273, 3) := by decide +kernel
theorem dX7_init_318 : decode cX7_init 318 = .ok (.iastore, 1) := by decide +kernel
theorem dX7_init_319 : decode cX7_init 319 = .ok (.dup, 1) := by decide +kernel
theorem dX7_init_320 : decode cX7_init 320 = .ok (.iconst 5, 1) := by decide +kernel
theorem dX7_init_321 : decode cX7_init 321 = .ok (.sipush 323, 3) := by decide +kernel
theorem dX7_init_324 : decode cX7_init 324 = .ok (.iastore, 1) := by decide +kernel
theorem dX7_init_325 : decode cX7_init 325 = .ok (.dup, 1) := by decide +kernel
theorem dX7_init_326 : decode cX7_init 326 = .ok (.bipush 6, 2) := by decide +kernel
theorem dX7_init_328 : decode cX7_init 328 = .ok (.sipush 373, 3) := by decide +kernel
theorem dX7_init_331 : decode cX7_init 331 = .ok (.iastore, 1) := by decide +kernel
theorem dX7_init_332 : decode cX7_init 332 = .ok (.dup, 1) := by decide +kernel
theorem dX7_init_333 : decode cX7_init 333 = .ok (.bipush 7, 2) := by decide +kernel
theorem dX7_init_335 : decode cX7_init 335 = .ok (.sipush 425, 3) := by decide +kernel
theorem dX7_init_338 : decode cX7_init 338 = .ok (.iastore, 1) := by decide +kernel
theorem dX7_init_339 : decode cX7_init 339 = .ok (.putfield 38, 3) := by decide +kernel
theorem dX7_init_342 : decode cX7_init 342 = .ok (.aload_n 0, 1) := by decide +kernel
theorem dX7_init_343 : decode cX7_init 343 = .ok (.bipush 16, 2) := by decide +kernel
theorem dX7_init_345 : decode cX7_init 345 = .ok (.newarray .int, 2) := by decide +kernel
theorem dX7_init_347 : decode cX7_init 347 = .ok (.dup, 1) := by decide +kernel
theorem dX7_init_348 : decode cX7_init 348 = .ok (.iconst 0, 1) := by decide +kernel
theorem dX7_init_349 : decode cX7_init 349 = .ok (.sipush (-2048), 3) := by decide +kernel
theorem dX7_init_352 : decode cX7_init 352 = .ok (.iastore, 1) := by decide +kernel
theorem dX7_init_353 : decode cX7_init 353 = .ok (.dup, 1) := by decide +kernel
theorem dX7_init_354 : decode cX7_init 354 = .ok (.iconst 1, 1) := by decide +kernel
theorem dX7_init_355 : decode cX7_init 355 = .ok (.bipush (-66), 2) := by decide +kernel
theorem dX7_init_357 : decode cX7_init 357 = .ok (.iastore, 1) := by decide +kernel
theorem dX7_init_358 : decode cX7_init 358 = .ok (.dup, 1) := by decide +kernel
theorem dX7_init_359 : decode cX7_init 359 = .ok (.iconst 2, 1) := by decide +kernel
theorem dX7_init_360 : decode cX7_init 360 = .ok (.bipush 28, 2) := by decide +kernel
theorem dX7_init_362 : decode cX7_init 362 = .ok (.iastore, 1) := by decide +kernel
theorem dX7_init_363 : decode cX7_init 363 = .ok (.dup, 1) := by decide +kernel
theorem dX7_init_364 : decode cX7_init 364 = .ok (.iconst 3, 1) := by decide +kernel
theorem dX7_init_365 : decode cX7_init 365 = .ok (.bipush 104, 2) := by decide +kernel
theorem dX7_init_367 : decode cX7_init 367 = .ok (.iastore, 1) := by decide +kernel
theorem dX7_init_368 : decode cX7_init 368 = .ok (.dup, 1) := by decide +kernel
theorem dX7_init_369 : decode cX7_init 369 = .ok (.iconst 4, 1) := by decide +kernel
theorem dX7_init_370 : decode cX7_init 370 = .ok (.sipush 169, 3) := by decide +kernel
theorem dX7_init_373 : decode cX7_init 373 = .ok (.iastore, 1) := by decide +kernel
theorem dX7_init_374 : decode cX7_init 374 = .ok (.dup, 1) := by decide +kernel
theorem dX7_init_375 : decode cX7_init 375 = .ok (.iconst 5, 1) := by decide +kernel
theorem dX7_init_376 : decode cX7_init 376 = .ok (.sipush 224, 3) := by decide +kernel
theorem dX7_init_379 : decode cX7_init 379 = .ok (.iastore, 1) := by decide +kernel
theorem dX7_init_380 : decode cX7_init 380 = .ok (.dup, 1) := by decide +kernel
theorem dX7_init_381 : decode cX7_init 381 = .ok (.bipush 6, 2) := by decide +kernel
theorem dX7_init_383 : decode cX7_init 383 = .ok (.sipush 274, 3) := by decide +kernel
theorem dX7_init_386 : decode cX7_init 386 = .ok (.iastore, 1) := by decide +kernel
theorem dX7_init_387 : decode cX7_init 387 = .ok (.dup, 1) := by decide +kernel
theorem dX7_init_388 : decode cX7_init 388 = .ok (.bipush 7, 2) := by decide +kernel
theorem dX7_init_390 : decode cX7_init 390 = .ok (.sipush 318, 3) := by decide +kernel
theorem dX7_init_393 : decode cX7_init 393 = .ok (.iastore, 1) := by decide +kernel
theorem dX7_init_394 : decode cX7_init 394 = .ok (.dup, 1) := by decide +kernel
theorem dX7_init_395 : decode cX7_init 395 = .ok (.bipush 8, 2) := by decide +kernel
theorem dX7_init_397 : decode cX7_init 397 = .ok (.sipush 358, 3) := by decide +kernel
theorem dX7_init_400 : decode cX7_init 400 = .ok (.iastore, 1) := by decide +kernel
theorem dX7_init_401 : decode cX7_init 401 = .ok (.dup, 1) := by decide +kernel
theorem dX7_init_402 : decode cX7_init 402 = .ok (.bipush 9, 2) := by decide +kernel
theorem dX7_init_404 : decode cX7_init 404 = .ok (.sipush 395, 3) := by decide +kernel
theorem dX7_init_407 : decode cX7_init 407 = .ok (.iastore, 1) := by decide +kernel
theorem dX7_init_408 : decode cX7_init 408 = .ok (.dup, 1) := by decide +kernel
theorem dX7_init_409 : decode cX7_init 409 = .ok (.bipush 10, 2) := by decide +kernel
theorem dX7_init_411 : decode cX7_init 411 = .ok (.sipush 429, 3) := by decide +kernel
theorem dX7_init_414 : decode cX7_init 414 = .ok (.iastore, 1) := by decide +kernel
theorem dX7_init_415 : decode cX7_init 415 = .ok (.dup, 1) := by decide +kernel
theorem dX7_init_416 : decode cX7_init 416 = .ok (.bipush 11, 2) := by decide +kernel
theorem dX7_init_418 : decode cX7_init 418 = .ok (.sipush 459, 3) := by decide +kernel
theorem dX7_init_421 : decode cX7_init 421 = .ok (.iastore, 1) := by decide +kernel
theorem dX7_init_422 : decode cX7_init 422 = .ok (.dup, 1) := by decide +kernel
theorem dX7_init_423 : decode cX7_init 423 = .ok (.bipush 12, 2) := by decide +kernel
theorem dX7_init_425 : decode cX7_init 425 = .ok (.sipush 488, 3) := by decide +kernel
theorem dX7_init_428 : decode cX7_init 428 = .ok (.iastore, 1) := by decide +kernel
theorem dX7_init_429 : decode cX7_init 429 = .ok (.dup, 1) := by decide +kernel
theorem dX7_init_430 : decode cX7_init 430 = .ok (.bipush 13, 2) := by decide +kernel
theorem dX7_init_432 : decode cX7_init 432 = .ok (.sipush 514, 3) := by decide +kernel
theorem dX7_init_435 : decode cX7_init 435 = .ok (.iastore, 1) := by decide +kernel
theorem dX7_init_436 : decode cX7_init 436 = .ok (.dup, 1) := by decide +kernel
theorem dX7_init_437 : decode cX7_init 437 = .ok (.bipush 14, 2) := by decide +kernel
theorem dX7_init_439 : decode cX7_init 439 = .ok (.sipush 539, 3) := by decide +kernel
theorem dX7_init_442 : decode cX7_init 442 = .ok (.iastore, 1) := by decide +kernel
theorem dX7_init_443 : decode cX7_init 443 = .ok (.dup, 1) := by decide +kernel
theorem dX7_init_444 : decode cX7_init 444 = .ok (.bipush 15, 2) := by decide +kernel
theorem dX7_init_446 : decode cX7_init 446 = .ok (.sipush 566, 3) := by decide +kernel
theorem dX7_init_449 : decode cX7_init 449 = .ok (.iastore, 1) := by decide +kernel
theorem dX7_init_450 : decode cX7_init 450 = .ok (.putfield 41, 3) := by decide +kernel
theorem dX7_init_453 : decode cX7_init 453 = .ok (.aload_n 0, 1) := by decide +kernel
theorem dX7_init_454 : decode cX7_init 454 = .ok (.iconst 2, 1) := by decide +kernel
theorem dX7_init_455 : decode cX7_init 455 = .ok (.newarray .int, 2) := by decide +kernel
theorem dX7_init_457 : decode cX7_init 457 = .ok (.dup, 1) := by decide +kernel
theorem dX7_init_458 : decode cX7_init 458 = .ok (.iconst 0, 1) := by decide +kernel
theorem dX7_init_459 : decode cX7_init 459 = .ok (.sipush (-704), 3) := by decide +kernel
theorem dX7_init_462 : decode cX7_init 462 = .ok (.iastore, 1) := by decide +kernel
theorem dX7_init_463 : decode cX7_init 463 = .ok (.dup, 1) := by decide +kernel
theorem dX7_init_464 : decode cX7_init 464 = .ok (.iconst 1, 1) := by decide +kernel
theorem dX7_init_465 : decode cX7_init 465 = .ok (.sipush 14048, 3) := by decide +kernel
theorem dX7_init_468 : decode cX7_init 468 = .ok (.iastore, 1) := by decide +kernel
theorem dX7_init_469 : decode cX7_init 469 = .ok (.putfield 44, 3) := by decide +kernel
theorem dX7_init_472 : decode cX7_init 472 = .ok (.aload_n 0, 1) := by decide +kernel
theorem dX7_init_473 : decode cX7_init 473 = .ok (.iconst 4, 1) := by decide +kernel
theorem dX7_init_474 : decode cX7_init 474 = .ok (.newarray .int, 2) := by decide +kernel
theorem dX7_init_476 : decode cX7_init 476 = .ok (.dup, 1) := by decide +kernel
theorem dX7_init_477 : decode cX7_init 477 = .ok (.iconst 0, 1) := by decide +kernel
theorem dX7_init_478 : decode cX7_init 478 = .ok (.bipush (-128), 2) := by decide +kernel
theorem dX7_init_480 : decode cX7_init 480 = .ok (.iastore, 1) := by decide +kernel
theorem dX7_init_481 : decode cX7_init 481 = .ok (.dup, 1) := by decide +kernel
theorem dX7_init_482 : decode cX7_init 482 = .ok (.iconst 1, 1) := by decide +kernel
theorem dX7_init_483 : decode cX7_init 483 = .ok (.sipush 960, 3) := by decide +kernel
theorem dX7_init_486 : decode cX7_init 486 = .ok (.iastore, 1) := by decide +kernel
theorem dX7_init_487 : decode cX7_init 487 = .ok (.dup, 1) := by decide +kernel
theorem dX7_init_488 : decode cX7_init 488 = .ok (.iconst 2, 1) := by decide +kernel
theorem dX7_init_489 : decode cX7_init 489 = .ok (.sipush 4384, 3) := by decide +kernel
theorem dX7_init_492 : decode cX7_init 492 = .ok (.iastore, 1) := by decide +kernel
theorem dX7_init_493 : decode cX7_init 493 = .ok (.dup, 1) := by decide +kernel
theorem dX7_init_494 : decode cX7_init 494 = .ok (.iconst 3, 1) := by decide +kernel
theorem dX7_init_495 : decode cX7_init 495 = .ok (.sipush 18624, 3) := by decide +kernel
theorem dX7_init_498 : decode cX7_init 498 = .ok (.iastore, 1) := by decide +kernel
theorem dX7_init_499 : decode cX7_init 499 = .ok (.putfield 47, 3) := by decide +kernel
theorem dX7_init_502 : decode cX7_init 502 = .ok (.aload_n 0, 1) := by decide +kernel
theorem dX7_init_503 : decode cX7_init 503 = .ok (.bipush 8, 2) := by decide +kernel
theorem dX7_init_505 : decode cX7_init 505 = .ok (.newarray .int, 2) := by decide +kernel
theorem dX7_init_507 : decode cX7_init 507 = .ok (.dup, 1) := by decide +kernel
theorem dX7_init_508 : decode cX7_init 508 = .ok (.iconst 0, 1) := by decide +kernel
theorem dX7_init_509 : decode cX7_init 509 = .ok (.sipush (-384), 3) := by decide +kernel
theorem dX7_init_512 : decode cX7_init 512 = .ok (.iastore, 1) := by decide +kernel
theorem dX7_init_513 : decode cX7_init 513 = .ok (.dup, 1) := by decide +kernel
theorem dX7_init_514 : decode cX7_init 514 = .ok (.iconst 1, 1) := by decide +kernel
theorem dX7_init_515 : decode cX7_init 515 = .ok (.sipush 576, 3) := by decide +kernel
theorem dX7_init_518 : decode cX7_init 518 = .ok (.iastore, 1) := by decide +kernel
theorem dX7_init_519 : decode cX7_init 519 = .ok (.dup, 1) := by decide +kernel
theorem dX7_init_520 : decode cX7_init 520 = .ok (.iconst 2, 1) := by decide +kernel
theorem dX7_init_521 : decode cX7_init 521 = .ok (.sipush 1312, 3) := by decide +kernel
theorem dX7_init_524 : decode cX7_init 524 = .ok (.iastore, 1) := by decide +kernel
theorem dX7_init_525 : decode cX7_init 525 = .ok (.dup, 1) := by decide +kernel
theorem dX7_init_526 : decode cX7_init 526 = .ok (.iconst 3, 1) := by decide +kernel
theorem dX7_init_527 : decode cX7_init 527 = .ok (.sipush 2048, 3) := by decide +kernel
theorem dX7_init_530 : decode cX7_init 530 = .ok (.iastore, 1) := by decide +kernel
theorem dX7_init_531 : decode cX7_init 531 = .ok (.dup, 1) := by decide +kernel
theorem dX7_init_532 : decode cX7_init 532 = .ok (.iconst 4, 1) := by decide +kernel
theorem dX7_init_533 : decode cX7_init 533 = .ok (.sipush 3584, 3) := by decide +kernel
theorem dX7_init_536 : decode cX7_init 536 = .ok (.iastore, 1) := by decide +kernel
theorem dX7_init_537 : decode cX7_init 537 = .ok (.dup, 1) := by decide +kernel
theorem dX7_init_538 : decode cX7_init 538 = .ok (.iconst 5, 1) := by decide +kernel
theorem dX7_init_539 : decode cX7_init 539 = .ok (.sipush 6336, 3) := by decide +kernel
theorem dX7_init_542 : decode cX7_init 542 = .ok (.iastore, 1) := by decide +kernel
theorem dX7_init_543 : decode cX7_init 543 = .ok (.dup, 1) := by decide +kernel
theorem dX7_init_544 : decode cX7_init 544 = .ok (.bipush 6, 2) := by decide +kernel
theorem dX7_init_546 : decode cX7_init 546 = .ok (.sipush 11360, 3) := by decide +kernel
theorem dX7_init_549 : decode cX7_init 549 = .ok (.iastore, 1) := by decide +kernel
theorem dX7_init_550 : decode cX7_init 550 = .ok (.dup, 1) := by decide +kernel
theorem dX7_init_551 : decode cX7_init 551 = .ok (.bipush 7, 2) := by decide +kernel
theorem dX7_init_553 : decode cX7_init 553 = .ok (.ldc 50, 2) := by decide +kernel
theorem dX7_init_555 : decode cX7_init 555 = .ok (.iastore, 1) := by decide +kernel
theorem dX7_init_556 : decode cX7_init 556 = .ok (.putfield 51, 3) := by decide +kernel
theorem dX7_init_559 : decode cX7_init 559 = .ok (.aload_n 0, 1) := by decide +kernel
theorem dX7_init_560 : decode cX7_init 560 = .ok (.bipush 16, 2) := by decide +kernel
theorem dX7_init_562 : decode cX7_init 562 = .ok (.newarray .int, 2) := by decide +kernel
theorem dX7_init_564 : decode cX7_init 564 = .ok (.dup, 1) := by decide +kernel
theorem dX7_init_565 : decode cX7_init 565 = .ok (.iconst 0, 1) := by decide +kernel
theorem dX7_init_566 : decode cX7_init 566 = .ok (.sipush 448, 3) := by decide +kernel
theorem dX7_init_569 : decode cX7_init 569 = .ok (.iastore, 1) := by decide +kernel
theorem dX7_init_570 : decode cX7_init 570 = .ok (.dup, 1) := by decide +kernel
theorem dX7_init_571 : decode cX7_init 571 = .ok (.iconst 1, 1) := by decide +kernel
theorem dX7_init_572 : decode cX7_init 572 = .ok (.sipush 448, 3) := by decide +kernel
theorem dX7_init_575 : decode cX7_init 575 = .ok (.iastore, 1) := by decide +kernel
theorem dX7_init_576 : decode cX7_init 576 = .ok (.dup, 1) := by decide +kernel
theorem dX7_init_577 : decode cX7_init 577 = .ok (.iconst 2, 1) := by decide +kernel
theorem dX7_init_578 : decode cX7_init 578 = .ok (.sipush 768, 3) := by decide +kernel
theorem dX7_init_581 : decode cX7_init 581 = .ok (.iastore, 1) := by decide +kernel
theorem dX7_init_582 : decode cX7_init 582 = .ok (.dup, 1) := by decide +kernel
theorem dX7_init_583 : decode cX7_init 583 = .ok (.iconst 3, 1) := by decide +kernel
theorem dX7_init_584 : decode cX7_init 584 = .ok (.sipush 1248, 3) := by decide +kernel
theorem dX7_init_587 : decode cX7_init 587 = .ok (.iastore, 1) := by decide +kernel
theorem dX7_init_588 : decode cX7_init 588 = .ok (.dup, 1) := by decide +kernel
theorem dX7_init_589 : decode cX7_init 589 = .ok (.iconst 4, 1) := by decide +kernel
theorem dX7_init_590 : decode cX7_init 590 = .ok (.sipush 1280, 3) := by decide +kernel
theorem dX7_init_593 : decode cX7_init 593 = .ok (.iastore, 1) := by decide +kernel
theorem dX7_init_594 : decode cX7_init 594 = .ok (.dup, 1) := by decide +kernel
theorem dX7_init_595 : decode cX7_init 595 = .ok (.iconst 5, 1) := by decide +kernel
theorem dX7_init_596 : decode cX7_init 596 = .ok (.sipush 1312, 3) := by decide +kernel
theorem dX7_init_599 : decode cX7_init 599 = .ok (.iastore, 1) := by decide +kernel
theorem dX7_init_600 : decode cX7_init 600 = .ok (.dup, 1) := by decide +kernel
theorem dX7_init_601 : decode cX7_init 601 = .ok (.bipush 6, 2) := by decide +kernel
theorem dX7_init_603 : decode cX7_init 603 = .ok (.sipush 1856, 3) := by decide +kernel
theorem dX7_init_606 : decode cX7_init 606 = .ok (.iastore, 1) := by decide +kernel
theorem dX7_init_607 : decode cX7_init 607 = .ok (.dup, 1) := by decide +kernel
theorem dX7_init_608 : decode cX7_init 608 = .ok (.bipush 7, 2) := by decide +kernel
theorem dX7_init_610 : decode cX7_init 610 = .ok (.sipush 3200, 3) := by decide +kernel
theorem dX7_init_613 : decode cX7_init 613 = .ok (.iastore, 1) := by decide +kernel
theorem dX7_init_614 : decode cX7_init 614 = .ok (.dup, 1) := by decide +kernel
theorem dX7_init_615 : decode cX7_init 615 = .ok (.bipush 8, 2) := by decide +kernel
theorem dX7_init_617 : decode cX7_init 617 = .ok (.sipush 4512, 3) := by decide +kernel
theorem dX7_init_620 : decode cX7_init 620 = .ok (.iastore, 1) := by decide +kernel
theorem dX7_init_621 : decode cX7_init 621 = .ok (.dup, 1) := by decide +kernel
theorem dX7_init_622 : decode cX7_init 622 = .ok (.bipush 9, 2) := by decide +kernel
theorem dX7_init_624 : decode cX7_init 624 = .ok (.sipush 5728, 3) := by decide +kernel
theorem dX7_init_627 : decode cX7_init 627 = .ok (.iastore, 1) := by decide +kernel
theorem dX7_init_628 : decode cX7_init 628 = .ok (.dup, 1) := by decide +kernel
theorem dX7_init_629 : decode cX7_init 629 = .ok (.bipush 10, 2) := by decide +kernel
theorem dX7_init_631 : decode cX7_init 631 = .ok (.sipush 7008, 3) := by decide +kernel
theorem dX7_init_634 : decode cX7_init 634 = .ok (.iastore, 1) := by decide +kernel
theorem dX7_init_635 : decode cX7_init 635 = .ok (.dup, 1) := by decide +kernel
theorem dX7_init_636 : decode cX7_init 636 = .ok (.bipush 11, 2) := by decide +kernel
theorem dX7_init_638 : decode cX7_init 638 = .ok (.sipush 8960, 3) := by decide +kernel
theorem dX7_init_641 : decode cX7_init 641 = .ok (.iastore, 1) := by decide +kernel
theorem dX7_init_642 : decode cX7_init 642 = .ok (.dup, 1) := by decide +kernel
theorem dX7_init_643 : decode cX7_init 643 = .ok (.bipush 12, 2) := by decide +kernel
theorem dX7_init_645 : decode cX7_init 645 = .ok (.sipush 11456, 3) := by decide +kernel
theorem dX7_init_648 : decode cX7_init 648 = .ok (.iastore, 1) := by decide +kernel
theorem dX7_init_649 : decode cX7_init 649 = .ok (.dup, 1) := by decide +kernel
theorem dX7_init_650 : decode cX7_init 650 = .ok (.bipush 13, 2) := by decide +kernel
theorem dX7_init_652 : decode cX7_init 652 = .ok (.sipush 14080, 3) := by decide +kernel
theorem dX7_init_655 : decode cX7_init 655 = .ok (.iastore, 1) := by decide +kernel
theorem dX7_init_656 : decode cX7_init 656 = .ok (.dup, 1) := by decide +kernel
theorem dX7_init_657 : decode cX7_init 657 = .ok (.bipush 14, 2) := by decide +kernel
theorem dX7_init_659 : decode cX7_init 659 = .ok (.sipush 16928, 3) := by decide +kernel
theorem dX7_init_662 : decode cX7_init 662 = .ok (.iastore, 1) := by decide +kernel
theorem dX7_init_663 : decode cX7_init 663 = .ok (.dup, 1) := by decide +kernel
theorem dX7_init_664 : decode cX7_init 664 = .ok (.bipush 15, 2) := by decide +kernel
theorem dX7_init_666 : decode cX7_init 666 = .ok (.sipush 22272, 3) := by decide +kernel
theorem dX7_init_669 : decode cX7_init 669 = .ok (.iastore, 1) := by decide +kernel
theorem dX7_init_670 : decode cX7_init 670 = .ok (.putfield 54, 3) := by decide +kernel
theorem dX7_init_673 : decode cX7_init 673 = .ok (.aload_n 0, 1) := by decide +kernel
theorem dX7_init_674 : decode cX7_init 674 = .ok (.iconst 2, 1) := by decide +kernel
theorem dX7_init_675 : decode cX7_init 675 = .ok (.newarray .int, 2) := by decide +kernel
theorem dX7_init_677 : decode cX7_init 677 = .ok (.dup, 1) := by decide +kernel
theorem dX7_init_678 : decode cX7_init 678 = .ok (.iconst 0, 1) := by decide +kernel
theorem dX7_init_679 : decode cX7_init 679 = .ok (.iconst 0, 1) := by decide +kernel
theorem dX7_init_680 : decode cX7_init 680 = .ok (.iastore, 1) := by decide +kernel
theorem dX7_init_681 : decode cX7_init 681 = .ok (.dup, 1) := by decide +kernel
theorem dX7_init_682 : decode cX7_init 682 = .ok (.iconst 1, 1) := by decide +kernel
theorem dX7_init_683 : decode cX7_init 683 = .ok (.sipush 3584, 3) := by decide +kernel
theorem dX7_init_686 : decode cX7_init 686 = .ok (.iastore, 1) := by decide +kernel
theorem dX7_init_687 : decode cX7_init 687 = .ok (.putfield 57, 3) := by decide +kernel
theorem dX7_init_690 : decode cX7_init 690 = .ok (.aload_n 0, 1) := by decide +kernel
theorem dX7_init_691 : decode cX7_init 691 = .ok (.iconst 4, 1) := by decide +kernel
theorem dX7_init_692 : decode cX7_init 692 = .ok (.newarray .int, 2) := by decide +kernel
theorem dX7_init_694 : decode cX7_init 694 = .ok (.dup, 1) := by decide +kernel
theorem dX7_init_695 : decode cX7_init 695 = .ok (.iconst 0, 1) := by decide +kernel
theorem dX7_init_696 : decode cX7_init 696 = .ok (.iconst 0, 1) := by decide +kernel
theorem dX7_init_697 : decode cX7_init 697 = .ok (.iastore, 1) := by decide +kernel
theorem dX7_init_698 : decode cX7_init 698 = .ok (.dup, 1) := by decide +kernel
theorem dX7_init_699 : decode cX7_init 699 = .ok (.iconst 1, 1) := by decide +kernel
theorem dX7_init_700 : decode cX7_init 700 = .ok (.sipush 512, 3) := by decide +kernel
theorem dX7_init_703 : decode cX7_init 703 = .ok (.iastore, 1) := by decide +kernel
theorem dX7_init_704 : decode cX7_init 704 = .ok (.dup, 1) := by decide +kernel
theorem dX7_init_705 : decode cX7_init 705 = .ok (.iconst 2, 1) := by decide +kernel
theorem dX7_init_706 : decode cX7_init 706 = .ok (.sipush 1024, 3) := by decide +kernel
theorem dX7_init_709 : decode cX7_init 709 = .ok (.iastore, 1) := by decide +kernel
theorem dX7_init_710 : decode cX7_init 710 = .ok (.dup, 1) := by decide +kernel
theorem dX7_init_711 : decode cX7_init 711 = .ok (.iconst 3, 1) := by decide +kernel
theorem dX7_init_712 : decode cX7_init 712 = .ok (.sipush 3584, 3) := by decide +kernel
theorem dX7_init_715 : decode cX7_init 715 = .ok (.iastore, 1) := by decide +kernel
theorem dX7_init_716 : decode cX7_init 716 = .ok (.putfield 60, 3) := by decide +kernel
theorem dX7_init_719 : decode cX7_init 719 = .ok (.aload_n 0, 1) := by decide +kernel
theorem dX7_init_720 : decode cX7_init 720 = .ok (.bipush 8, 2) := by decide +kernel
theorem dX7_init_722 : decode cX7_init 722 = .ok (.newarray .int, 2) := by decide +kernel
theorem dX7_init_724 : decode cX7_init 724 = .ok (.dup, 1) := by decide +kernel
theorem dX7_init_725 : decode cX7_init 725 = .ok (.iconst 0, 1) := by decide +kernel
theorem dX7_init_726 : decode cX7_init 726 = .ok (.iconst 0, 1) := by decide +kernel
theorem dX7_init_727 : decode cX7_init 727 = .ok (.iastore, 1) := by decide +kernel
theorem dX7_init_728 : decode cX7_init 728 = .ok (.dup, 1) := by decide +kernel
theorem dX7_init_729 : decode cX7_init 729 = .ok (.iconst 1, 1) := by decide +kernel
theorem dX7_init_730 : decode cX7_init 730 = .ok (.iconst 0, 1) := by decide +kernel
theorem dX7_init_731 : decode cX7_init 731 = .ok (.iastore, 1) := by decide +kernel
theorem dX7_init_732 : decode cX7_init 732 = .ok (.dup, 1) := by decide +kernel
theorem dX7_init_733 : decode cX7_init 733 = .ok (.iconst 2, 1) := by decide +kernel
theorem dX7_init_734 : decode cX7_init 734 = .ok (.iconst 0, 1) := by decide +kernel
theorem dX7_init_735 : decode cX7_init 735 = .ok (.iastore, 1) := by decide +kernel
theorem dX7_init_736 : decode cX7_init 736 = .ok (.dup, 1) := by decide +kernel
theorem dX7_init_737 : decode cX7_init 737 = .ok (.iconst 3, 1) := by decide +kernel
theorem dX7_init_738 : decode cX7_init 738 = .ok (.sipush 512, 3) := by decide +kernel
theorem dX7_init_741 : decode cX7_init 741 = .ok (.iastore, 1) := by decide +kernel
theorem dX7_init_742 : decode cX7_init 742 = .ok (.dup, 1) := by decide +kernel
theorem dX7_init_743 : decode cX7_init 743 = .ok (.iconst 4, 1) := by decide +kernel
theorem dX7_init_744 : decode cX7_init 744 = .ok (.sipush 512, 3) := by decide +kernel
theorem dX7_init_747 : decode cX7_init 747 = .ok (.iastore, 1) := by decide +kernel
theorem dX7_init_748 : decode cX7_init 748 = .ok (.dup, 1) := by decide +kernel
theorem dX7_init_749 : decode cX7_init 749 = .ok (.iconst 5, 1) := by decide +kernel
theorem dX7_init_750 : decode cX7_init 750 = .ok (.sipush 512, 3) := by decide +kernel
theorem dX7_init_753 : decode cX7_init 753 = .ok (.iastore, 1) := by decide +kernel
theorem dX7_init_754 : decode cX7_init 754 = .ok (.dup, 1) := by decide +kernel
theorem dX7_init_755 : decode cX7_init 755 = .ok (.bipush 6, 2) := by decide +kernel
theorem dX7_init_757 : decode cX7_init 757 = .ok (.sipush 1536, 3) := by decide +kernel
theorem dX7_init_760 : decode cX7_init 760 = .ok (.iastore, 1) := by decide +kernel
theorem dX7_init_761 : decode cX7_init 761 = .ok (.dup, 1) := by decide +kernel
theorem dX7_init_762 : decode cX7_init 762 = .ok (.bipush 7, 2) := by decide +kernel
theorem dX7_init_764 : decode cX7_init 764 = .ok (.sipush 3584, 3) := by decide +kernel
theorem dX7_init_767 : decode cX7_init 767 = .ok (.iastore, 1) := by decide +kernel
theorem dX7_init_768 : decode cX7_init 768 = .ok (.putfield 63, 3) := by decide +kernel
theorem dX7_init_771 : decode cX7_init 771 = .ok (.aload_n 0, 1) := by decide +kernel
theorem dX7_init_772 : decode cX7_init 772 = .ok (.bipush 16, 2) := by decide +kernel
theorem dX7_init_774 : decode cX7_init 774 = .ok (.newarray .int, 2) := by decide +kernel
theorem dX7_init_776 : decode cX7_init 776 = .ok (.dup, 1) := by decide +kernel
theorem dX7_init_777 : decode cX7_init 777 = .ok (.iconst 0, 1) := by decide +kernel
theorem dX7_init_778 : decode cX7_init 778 = .ok (.iconst 0, 1) := by decide +kernel
theorem dX7_init_779 : decode cX7_init 779 = .ok (.iastore, 1) := by decide +kernel
theorem dX7_init_780 : decode cX7_init 780 = .ok (.dup, 1) := by decide +kernel
theorem dX7_init_781 : decode cX7_init 781 = .ok (.iconst 1, 1) := by decide +kernel
theorem dX7_init_782 : decode cX7_init 782 = .ok (.iconst 0, 1) := by decide +kernel
theorem dX7_init_783 : decode cX7_init 783 = .ok (.iastore, 1) := by decide +kernel
theorem dX7_init_784 : decode cX7_init 784 = .ok (.dup, 1) := by decide +kernel
theorem dX7_init_785 : decode cX7_init 785 = .ok (.iconst 2, 1) := by decide +kernel
theorem dX7_init_786 : decode cX7_init 786 = .ok (.iconst 0, 1) := by decide +kernel
theorem dX7_init_787 : decode cX7_init 787 = .ok (.iastore, 1) := by decide +kernel
theorem dX7_init_788 : decode cX7_init 788 = .ok (.dup, 1) := by decide +kernel
theorem dX7_init_789 : decode cX7_init 789 = .ok (.iconst 3, 1) := by decide +kernel
theorem dX7_init_790 : decode cX7_init 790 = .ok (.iconst 0, 1) := by decide +kernel
theorem dX7_init_791 : decode cX7_init 791 = .ok (.iastore, 1) := by decide +kernel
theorem dX7_init_792 : decode cX7_init 792 = .ok (.dup, 1) := by decide +kernel
theorem dX7_init_793 : decode cX7_init 793 = .ok (.iconst 4, 1) := by decide +kernel
theorem dX7_init_794 : decode cX7_init 794 = .ok (.iconst 0, 1) := by decide +kernel
theorem dX7_init_795 : decode cX7_init 795 = .ok (.iastore, 1) := by decide +kernel
theorem dX7_init_796 : decode cX7_init 796 = .ok (.dup, 1) := by decide +kernel
theorem dX7_init_797 : decode cX7_init 797 = .ok (.iconst 5, 1) := by decide +kernel
theorem dX7_init_798 : decode cX7_init 798 = .ok (.sipush 512, 3) := by decide +kernel
theorem dX7_init_801 : decode cX7_init 801 = .ok (.iastore, 1) := by decide +kernel
theorem dX7_init_802 : decode cX7_init 802 = .ok (.dup, 1) := by decide +kernel
theorem dX7_init_803 : decode cX7_init 803 = .ok (.bipush 6, 2) := by decide +kernel
theorem dX7_init_805 : decode cX7_init 805 = .ok (.sipush 512, 3) := by decide +kernel
theorem dX7_init_808 : decode cX7_init 808 = .ok (.iastore, 1) := by decide +kernel
theorem dX7_init_809 : decode cX7_init 809 = .ok (.dup, 1) := by decide +kernel
theorem dX7_init_810 : decode cX7_init 810 = .ok (.bipush 7, 2) := by decide +kernel
theorem dX7_init_812 : decode cX7_init 812 = .ok (.sipush 512, 3) := by decide +kernel
theorem dX7_init_815 : decode cX7_init 815 = .ok (.iastore, 1) := by decide +kernel
theorem dX7_init_816 : decode cX7_init 816 = .ok (.dup, 1) := by decide +kernel
theorem dX7_init_817 : decode cX7_init 817 = .ok (.bipush 8, 2) := by decide +kernel
theorem dX7_init_819 : decode cX7_init 819 = .ok (.sipush 512, 3) := by decide +kernel
theorem dX7_init_822 : decode cX7_init 822 = .ok (.iastore, 1) := by decide +kernel
theorem dX7_init_823 : decode cX7_init 823 = .ok (.dup, 1) := by decide +kernel
theorem dX7_init_824 : decode cX7_init 824 = .ok (.bipush 9, 2) := by decide +kernel
theorem dX7_init_826 : decode cX7_init 826 = .ok (.sipush 512, 3) := by decide +kernel
theorem dX7_init_829 : decode cX7_init 829 = .ok (.iastore, 1) := by decide +kernel
theorem dX7_init_830 : decode cX7_init 830 = .ok (.dup, 1) := by decide +kernel
theorem dX7_init_831 : decode cX7_init 831 = .ok (.bipush 10, 2) := by decide +kernel
theorem dX7_init_833 : decode cX7_init 833 = .ok (.sipush 1024, 3) := by decide +kernel
theorem dX7_init_836 : decode cX7_init 836 = .ok (.iastore, 1) := by decide +kernel
theorem dX7_init_837 : decode cX7_init 837 = .ok (.dup, 1) := by decide +kernel
theorem dX7_init_838 : decode cX7_init 838 = .ok (.bipush 11, 2) := by decide +kernel
theorem dX7_init_840 : decode cX7_init 840 = .ok (.sipush 1536, 3) := by decide +kernel
theorem dX7_init_843 : decode cX7_init 843 = .ok (.iastore, 1) := by decide +kernel
theorem dX7_init_844 : decode cX7_init 844 = .ok (.dup, 1) := by decide +kernel
theorem dX7_init_845 : decode cX7_init 845 = .ok (.bipush 12, 2) := by decide +kernel
theorem dX7_init_847 : decode cX7_init 847 = .ok (.sipush 2048, 3) := by decide +kernel
theorem dX7_init_850 : decode cX7_init 850 = .ok (.iastore, 1) := by decide +kernel
theorem dX7_init_851 : decode cX7_init 851 = .ok (.dup, 1) := by decide +kernel
theorem dX7_init_852 : decode cX7_init 852 = .ok (.bipush 13, 2) := by decide +kernel
theorem dX7_init_854 : decode cX7_init 854 = .ok (.sipush 2560, 3) := by decide +kernel
theorem dX7_init_857 : decode cX7_init 857 = .ok (.iastore, 1) := by decide +kernel
theorem dX7_init_858 : decode cX7_init 858 = .ok (.dup, 1) := by decide +kernel
theorem dX7_init_859 : decode cX7_init 859 = .ok (.bipush 14, 2) := by decide +kernel
theorem dX7_init_861 : decode cX7_init 861 = .ok (.sipush 3072, 3) := by decide +kernel
theorem dX7_init_864 : decode cX7_init 864 = .ok (.iastore, 1) := by decide +kernel
theorem dX7_init_865 : decode cX7_init 865 = .ok (.dup, 1) := by decide +kernel
theorem dX7_init_866 : decode cX7_init 866 = .ok (.bipush 15, 2) := by decide +kernel
theorem dX7_init_868 : decode cX7_init 868 = .ok (.sipush 3072, 3) := by decide +kernel
theorem dX7_init_871 : decode cX7_init 871 = .ok (.iastore, 1) := by decide +kernel
theorem dX7_init_872 : decode cX7_init 872 = .ok (.putfield 66, 3) := by decide +kernel
theorem dX7_init_875 : decode cX7_init 875 = .ok (.aload_n 0, 1) := by decide +kernel
theorem dX7_init_876 : decode cX7_init 876 = .ok (.sipush 368, 3) := by decide +kernel
theorem dX7_init_879 : decode cX7_init 879 = .ok (.newarray .int, 2) := by decide +kernel
theorem dX7_init_881 : decode cX7_init 881 = .ok (.putfield 69, 3) := by decide +kernel
theorem dX7_init_884 : decode cX7_init 884 = .ok (.aload_n 0, 1) := by decide +kernel
theorem dX7_init_885 : decode cX7_init 885 = .ok (.sipush 192, 3) := by decide +kernel
theorem dX7_init_888 : decode cX7_init 888 = .ok (.newarray .int, 2) := by decide +kernel
theorem dX7_init_890 : decode cX7_init 890 = .ok (.putfield 72, 3) := by decide +kernel
theorem dX7_init_893 : decode cX7_init 893 = .ok (.aload_n 0, 1) := by decide +kernel
theorem dX7_init_894 : decode cX7_init 894 = .ok (.bipush 12, 2) := by decide +kernel
theorem dX7_init_896 : decode cX7_init 896 = .ok (.newarray .int, 2) := by decide +kernel
theorem dX7_init_898 : decode cX7_init 898 = .ok (.dup, 1) := by decide +kernel
theorem dX7_init_899 : decode cX7_init 899 = .ok (.iconst 0, 1) := by decide +kernel
theorem dX7_init_900 : decode cX7_init 900 = .ok (.iconst 3, 1) := by decide +kernel
theorem dX7_init_901 : decode cX7_init 901 = .ok (.iastore, 1) := by decide +kernel
theorem dX7_init_902 : decode cX7_init 902 = .ok (.dup, 1) := by decide +kernel
theorem dX7_init_903 : decode cX7_init 903 = .ok (.iconst 1, 1) := by decide +kernel
theorem dX7_init_904 : decode cX7_init 904 = .ok (.bipush (-11), 2) := by decide +kernel
theorem dX7_init_906 : decode cX7_init 906 = .ok (.iastore, 1) := by decide +kernel
theorem dX7_init_907 : decode cX7_init 907 = .ok (.dup, 1) := by decide +kernel
theorem dX7_init_908 : decode cX7_init 908 = .ok (.iconst 2, 1) := by decide +kernel
theorem dX7_init_909 : decode cX7_init 909 = .ok (.bipush 12, 2) := by decide +kernel
theorem dX7_init_911 : decode cX7_init 911 = .ok (.iastore, 1) := by decide +kernel
theorem dX7_init_912 : decode cX7_init 912 = .ok (.dup, 1) := by decide +kernel
theorem dX7_init_913 : decode cX7_init 913 = .ok (.iconst 3, 1) := by decide +kernel
theorem dX7_init_914 : decode cX7_init 914 = .ok (.bipush 32, 2) := by decide +kernel
theorem dX7_init_916 : decode cX7_init 916 = .ok (.iastore, 1) := by decide +kernel
theorem dX7_init_917 : decode cX7_init 917 = .ok (.dup, 1) := by decide +kernel
theorem dX7_init_918 : decode cX7_init 918 = .ok (.iconst 4, 1) := by decide +kernel
theorem dX7_init_919 : decode cX7_init 919 = .ok (.sipush (-210), 3) := by decide +kernel
theorem dX7_init_922 : decode cX7_init 922 = .ok (.iastore, 1) := by decide +kernel
theorem dX7_init_923 : decode cX7_init 923 = .ok (.dup, 1) := by decide +kernel
theorem dX7_init_924 : decode cX7_init 924 = .ok (.iconst 5, 1) := by decide +kernel
theorem dX7_init_925 : decode cX7_init 925 = .ok (.sipush 951, 3) := by decide +kernel
theorem dX7_init_928 : decode cX7_init 928 = .ok (.iastore, 1) := by decide +kernel
theorem dX7_init_929 : decode cX7_init 929 = .ok (.dup, 1) := by decide +kernel
theorem dX7_init_930 : decode cX7_init 930 = .ok (.bipush 6, 2) := by decide +kernel
theorem dX7_init_932 : decode cX7_init 932 = .ok (.sipush 3876, 3) := by decide +kernel
theorem dX7_init_935 : decode cX7_init 935 = .ok (.iastore, 1) := by decide +kernel
theorem dX7_init_936 : decode cX7_init 936 = .ok (.dup, 1) := by decide +kernel
theorem dX7_init_937 : decode cX7_init 937 = .ok (.bipush 7, 2) := by decide +kernel
theorem dX7_init_939 : decode cX7_init 939 = .ok (.sipush (-805), 3) := by decide +kernel
theorem dX7_init_942 : decode cX7_init 942 = .ok (.iastore, 1) := by decide +kernel
theorem dX7_init_943 : decode cX7_init 943 = .ok (.dup, 1) := by decide +kernel
theorem dX7_init_944 : decode cX7_init 944 = .ok (.bipush 8, 2) := by decide +kernel
theorem dX7_init_946 : decode cX7_init 946 = .ok (.sipush 362, 3) := by decide +kernel
theorem dX7_init_949 : decode cX7_init 949 = .ok (.iastore, 1) := by decide +kernel
theorem dX7_init_950 : decode cX7_init 950 = .ok (.dup, 1) := by decide +kernel
theorem dX7_init_951 : decode cX7_init 951 = .ok (.bipush 9, 2) := by decide +kernel
theorem dX7_init_953 : decode cX7_init 953 = .ok (.sipush (-156), 3) := by decide +kernel
theorem dX7_init_956 : decode cX7_init 956 = .ok (.iastore, 1) := by decide +kernel
theorem dX7_init_957 : decode cX7_init 957 = .ok (.dup, 1) := by decide +kernel
theorem dX7_init_958 : decode cX7_init 958 = .ok (.bipush 10, 2) := by decide +kernel
theorem dX7_init_960 : decode cX7_init 960 = .ok (.bipush 53, 2) := by decide +kernel
theorem dX7_init_962 : decode cX7_init 962 = .ok (.iastore, 1) := by decide +kernel
theorem dX7_init_963 : decode cX7_init 963 = .ok (.dup, 1) := by decide +kernel
theorem dX7_init_964 : decode cX7_init 964 = .ok (.bipush 11, 2) := by decide +kernel
theorem dX7_init_966 : decode cX7_init 966 = .ok (.bipush (-11), 2) := by decide +kernel
theorem dX7_init_968 : decode cX7_init 968 = .ok (.iastore, 1) := by decide +kernel
theorem dX7_init_969 : decode cX7_init 969 = .ok (.putfield 75, 3) := by decide +kernel
theorem dX7_init_972 : decode cX7_init 972 = .ok (.aload_n 0, 1) := by decide +kernel
theorem dX7_init_973 : decode cX7_init 973 = .ok (.bipush 29, 2) := by decide +kernel
theorem dX7_init_975 : decode cX7_init 975 = .ok (.newarray .int, 2) := by decide +kernel
theorem dX7_init_977 : decode cX7_init 977 = .ok (.dup, 1) := by decide +kernel
theorem dX7_init_978 : decode cX7_init 978 = .ok (.iconst 0, 1) := by decide +kernel
theorem dX7_init_979 : decode cX7_init 979 = .ok (.bipush 35, 2) := by decide +kernel
theorem dX7_init_981 : decode cX7_init 981 = .ok (.iastore, 1) := by decide +kernel
theorem dX7_init_982 : decode cX7_init 982 = .ok (.dup, 1) := by decide +kernel
theorem dX7_init_983 : decode cX7_init 983 = .ok (.iconst 1, 1) := by decide +kernel
theorem dX7_init_984 : decode cX7_init 984 = .ok (.bipush 72, 2) := by decide +kernel
theorem dX7_init_986 : decode cX7_init 986 = .ok (.iastore, 1) := by decide +kernel
theorem dX7_init_987 : decode cX7_init 987 = .ok (.dup, 1) := by decide +kernel
theorem dX7_init_988 : decode cX7_init 988 = .ok (.iconst 2, 1) := by decide +kernel
theorem dX7_init_989 : decode cX7_init 989 = .ok (.bipush 110, 2) := by decide +kernel
theorem dX7_init_991 : decode cX7_init 991 = .ok (.iastore, 1) := by decide +kernel
theorem dX7_init_992 : decode cX7_init 992 = .ok (.dup, 1) := by decide +kernel
theorem dX7_init_993 : decode cX7_init 993 = .ok (.iconst 3, 1) := by decide +kernel
theorem dX7_init_994 : decode cX7_init 994 = .ok (.sipush 150, 3) := by decide +kernel
theorem dX7_init_997 : decode cX7_init 997 = .ok (.iastore, 1) := by decide +kernel
theorem dX7_init_998 : decode cX7_init 998 = .ok (.dup, 1) := by decide +kernel
theorem dX7_init_999 : decode cX7_init 999 = .ok (.iconst 4, 1) := by decide +kernel
theorem dX7_init_1000 : decode cX7_init 1000 = .ok (.sipush 190, 3) := by decide +kernel
theorem dX7_init_1003 : decode cX7_init 1003 = .ok (.iastore, 1) := by decide +kernel
theorem dX7_init_1004 : decode cX7_init 1004 = .ok (.dup, 1) := by decide +kernel
theorem dX7_init_1005 : decode cX7_init 1005 = .ok (.iconst 5, 1) := by decide +kernel
theorem dX7_init_1006 : decode cX7_init 1006 = .ok (.sipush 233, 3) := by decide +kernel
theorem dX7_init_1009 : decode cX7_init 1009 = .ok (.iastore, 1) := by decide +kernel
theorem dX7_init_1010 : decode cX7_init 1010 = .ok (.dup, 1) := by decide +kernel
theorem dX7_init_1011 : decode cX7_init 1011 = .ok (.bipush 6, 2) := by decide +kernel
theorem dX7_init_1013 : decode cX7_init 1013 = .ok (.sipush 276, 3) := by decide +kernel
theorem dX7_init_1016 : decode cX7_init 1016 = .ok (.iastore, 1) := by decide +kernel
theorem dX7_init_1017 : decode cX7_init 1017 = .ok (.dup, 1) := by decide +kernel
theorem dX7_init_1018 : decode cX7_init 1018 = .ok (.bipush 7, 2) := by decide +kernel
theorem dX7_init_1020 : decode cX7_init 1020 = .ok (.sipush 323, 3) := by decide +kernel
theorem dX7_init_1023 : decode cX7_init 1023 = .ok (.iastore, 1) := by decide +kernel
theorem dX7_init_1024 : decode cX7_init 1024 = .ok (.dup, 1) := by decide +kernel
theorem dX7_init_1025 : decode cX7_init 1025 = .ok (.bipush 8, 2) := by decide +kernel
theorem dX7_init_1027 : decode cX7_init 1027 = .ok (.sipush 370, 3) := by decide +kernel
theorem dX7_init_1030 : decode cX7_init 1030 = .ok (.iastore, 1) := by decide +kernel
theorem dX7_init_1031 : decode cX7_init 1031 = .ok (.dup, 1) := by decide +kernel
theorem dX7_init_1032 : decode cX7_init 1032 = .ok (.bipush 9, 2) := by decide +kernel
theorem dX7_init_1034 : decode cX7_init 1034 = .ok (.sipush 422, 3) := by decide +kernel
theorem dX7_init_1037 : decode cX7_init 1037 = .ok (.iastore, 1) := by decide +kernel
theorem dX7_init_1038 : decode cX7_init 1038 = .ok (.dup, 1) := by decide +kernel
theorem dX7_init_1039 : decode cX7_init 1039 = .ok (.bipush 10, 2) := by decide +kernel
theorem dX7_init_1041 : decode cX7_init 1041 = .ok (.sipush 473, 3) := by decide +kernel
theorem dX7_init_1044 : decode cX7_init 1044 = .ok (.iastore, 1) := by decide +kernel
theorem dX7_init_1045 : decode cX7_init 1045 = .ok (.dup, 1) := by decide +kernel
theorem dX7_init_1046 : decode cX7_init 1046 = .ok (.bipush 11, 2) := by decide +kernel
theorem dX7_init_1048 : decode cX7_init 1048 = .ok (.sipush 530, 3) := by decide +kernel
theorem dX7_init_1051 : decode cX7_init 1051 = .ok (.iastore, 1) := by decide +kernel
theorem dX7_init_1052 : decode cX7_init 1052 = .ok (.dup, 1) := by decide +kernel
theorem dX7_init_1053 : decode cX7_init 1053 = .ok (.bipush 12, 2) := by decide +kernel
theorem dX7_init_1055 : decode cX7_init 1055 = .ok (.sipush 587, 3) := by decide +kernel
theorem dX7_init_1058 : decode cX7_init 1058 = .ok (.iastore, 1) := by decide +kernel
theorem dX7_init_1059 : decode cX7_init 1059 = .ok (.dup, 1) := by decide +kernel
theorem dX7_init_1060 : decode cX7_init 1060 = .ok (.bipush 13, 2) := by decide +kernel
theorem dX7_init_1062 : decode cX7_init 1062 = .ok (.sipush 650, 3) := by decide +kernel
theorem dX7_init_1065 : decode cX7_init 1065 = .ok (.iastore, 1) := by decide +kernel
theorem dX7_init_1066 : decode cX7_init 1066 = .ok (.dup, 1) := by decide +kernel
theorem dX7_init_1067 : decode cX7_init 1067 = .ok (.bipush 14, 2) := by decide +kernel
theorem dX7_init_1069 : decode cX7_init 1069 = .ok (.sipush 714, 3) := by decide +kernel
theorem dX7_init_1072 : decode cX7_init 1072 = .ok (.iastore, 1) := by decide +kernel
theorem dX7_init_1073 : decode cX7_init 1073 = .ok (.dup, 1) := by decide +kernel
theorem dX7_init_1074 : decode cX7_init 1074 = .ok (.bipush 15, 2) := by decide +kernel
theorem dX7_init_1076 : decode cX7_init 1076 = .ok (.sipush 786, 3) := by decide +kernel
theorem dX7_init_1079 : decode cX7_init 1079 = .ok (.iastore, 1) := by decide +kernel
theorem dX7_init_1080 : decode cX7_init 1080 = .ok (.dup, 1) := by decide +kernel
theorem dX7_init_1081 : decode cX7_init 1081 = .ok (.bipush 16, 2) := by decide +kernel
theorem dX7_init_1083 : decode cX7_init 1083 = .ok (.sipush 858, 3) := by decide +kernel
theorem dX7_init_1086 : decode cX7_init 1086 = .ok (.iastore, 1) := by decide +kernel
theorem dX7_init_1087 : decode cX7_init 1087 = .ok (.dup, 1) := by decide +kernel
theorem dX7_init_1088 : decode cX7_init 1088 = .ok (.bipush 17, 2) := by decide +kernel
theorem dX7_init_1090 : decode cX7_init 1090 = .ok (.sipush 940, 3) := by decide +kernel
theorem dX7_init_1093 : decode cX7_init 1093 = .ok (.iastore, 1) := by decide +kernel
theorem dX7_init_1094 : decode cX7_init 1094 = .ok (.dup, 1) := by decide +kernel
theorem dX7_init_1095 : decode cX7_init 1095 = .ok (.bipush 18, 2) := by decide +kernel
theorem dX7_init_1097 : decode cX7_init 1097 = .ok (.sipush 1023, 3) := by decide +kernel
theorem dX7_init_1100 : decode cX7_init 1100 = .ok (.iastore, 1) := by decide +kernel
theorem dX7_init_1101 : decode cX7_init 1101 = .ok (.dup, 1) := by decide +kernel
theorem dX7_init_1102 : decode cX7_init 1102 = .ok (.bipush 19, 2) := by decide +kernel
theorem dX7_init_1104 : decode cX7_init 1104 = .ok (.sipush 1121, 3) := by decide +kernel
theorem dX7_init_1107 : decode cX7_init 1107 = .ok (.iastore, 1) := by decide +kernel
theorem dX7_init_1108 : decode cX7_init 1108 = .ok (.dup, 1) := by decide +kernel
theorem dX7_init_1109 : decode cX7_init 1109 = .ok (.bipush 20, 2) := by decide +kernel
theorem dX7_init_1111 : decode cX7_init 1111 = .ok (.sipush 1219, 3) := by decide +kernel
theorem dX7_init_1114 : decode cX7_init 1114 = .ok (.iastore, 1) := by decide +kernel
theorem dX7_init_1115 : decode cX7_init 1115 = .ok (.dup, 1) := by decide +kernel
theorem dX7_init_1116 : decode cX7_init 1116 = .ok (.bipush 21, 2) := by decide +kernel
theorem dX7_init_1118 : decode cX7_init 1118 = .ok (.sipush 1339, 3) := by decide +kernel
theorem dX7_init_1121 : decode cX7_init 1121 = .ok (.iastore, 1) := by decide +kernel
theorem dX7_init_1122 : decode cX7_init 1122 = .ok (.dup, 1) := by decide +kernel
theorem dX7_init_1123 : decode cX7_init 1123 = .ok (.bipush 22, 2) := by decide +kernel
theorem dX7_init_1125 : decode cX7_init 1125 = .ok (.sipush 1458, 3) := by decide +kernel
theorem dX7_init_1128 : decode cX7_init 1128 = .ok (.iastore, 1) := by decide +kernel
theorem dX7_init_1129 : decode cX7_init 1129 = .ok (.dup, 1) := by decide +kernel
theorem dX7_init_1130 : decode cX7_init 1130 = .ok (.bipush 23, 2) := by decide +kernel
theorem dX7_init_1132 : decode cX7_init 1132 = .ok (.sipush 1612, 3) := by decide +kernel
theorem dX7_init_1135 : decode cX7_init 1135 = .ok (.iastore, 1) := by decide +kernel
theorem dX7_init_1136 : decode cX7_init 1136 = .ok (.dup, 1) := by decide +kernel
theorem dX7_init_1137 : decode cX7_init 1137 = .ok (.bipush 24, 2) := by decide +kernel
theorem dX7_init_1139 : decode cX7_init 1139 = .ok (.sipush 1765, 3) := by decide +kernel
theorem dX7_init_1142 : decode cX7_init 1142 = .ok (.iastore, 1) := by decide +kernel
theorem dX7_init_1143 : decode cX7_init 1143 = .ok (.dup, 1) := by decide +kernel
theorem dX7_init_1144 : decode cX7_init 1144 = .ok (.bipush 25, 2) := by decide +kernel
theorem dX7_init_1146 : decode cX7_init 1146 = .ok (.sipush 1980, 3) := by decide +kernel
theorem dX7_init_1149 : decode cX7_init 1149 = .ok (.iastore, 1) := by decide +kernel
theorem dX7_init_1150 : decode cX7_init 1150 = .ok (.dup, 1) := by decide +kernel
theorem dX7_init_1151 : decode cX7_init 1151 = .ok (.bipush 26, 2) := by decide +kernel
theorem dX7_init_1153 : decode cX7_init 1153 = .ok (.sipush 2195, 3) := by decide +kernel
theorem dX7_init_1156 : decode cX7_init 1156 = .ok (.iastore, 1) := by decide +kernel
theorem dX7_init_1157 : decode cX7_init 1157 = .ok (.dup, 1) := by decide +kernel
theorem dX7_init_1158 : decode cX7_init 1158 = .ok (.bipush 27, 2) := by decide +kernel
theorem dX7_init_1160 : decode cX7_init 1160 = .ok (.sipush 2557, 3) := by decide +kernel
theorem dX7_init_1163 : decode cX7_init 1163 = .ok (.iastore, 1) := by decide +kernel
theorem dX7_init_1164 : decode cX7_init 1164 = .ok (.dup, 1) := by decide +kernel
theorem dX7_init_1165 : decode cX7_init 1165 = .ok (.bipush 28, 2) := by decide +kernel
theorem dX7_init_1167 : decode cX7_init 1167 = .ok (.sipush 2919, 3) := by decide +kernel
theorem dX7_init_1170 : decode cX7_init 1170 = .ok (.iastore, 1) := by decide +kernel
theorem dX7_init_1171 : decode cX7_init 1171 = .ok (.putfield 78, 3) := by decide +kernel
theorem dX7_init_1174 : decode cX7_init 1174 = .ok (.aload_n 0, 1) := by decide +kernel
theorem dX7_init_1175 : decode cX7_init 1175 = .ok (.bipush 32, 2) := by decide +kernel
theorem dX7_init_1177 : decode cX7_init 1177 = .ok (.newarray .int, 2) := by decide +kernel
theorem dX7_init_1179 : decode cX7_init 1179 = .ok (.dup, 1) := by decide +kernel
theorem dX7_init_1180 : decode cX7_init 1180 = .ok (.iconst 0, 1) := by decide +kernel
theorem dX7_init_1181 : decode cX7_init 1181 = .ok (.sipush 2048, 3) := by decide +kernel
theorem dX7_init_1184 : decode cX7_init 1184 = .ok (.iastore, 1) := by decide +kernel
theorem dX7_init_1185 : decode cX7_init 1185 = .ok (.dup, 1) := by decide +kernel
theorem dX7_init_1186 : decode cX7_init 1186 = .ok (.iconst 1, 1) := by decide +kernel
theorem dX7_init_1187 : decode cX7_init 1187 = .ok (.sipush 2093, 3) := by decide +kernel
theorem dX7_init_1190 : decode cX7_init 1190 = .ok (.iastore, 1) := by decide +kernel
theorem dX7_init_1191 : decode cX7_init 1191 = .ok (.dup, 1) := by decide +kernel
theorem dX7_init_1192 : decode cX7_init 1192 = .ok (.iconst 2, 1) := by decide +kernel
theorem dX7_init_1193 : decode cX7_init 1193 = .ok (.sipush 2139, 3) := by decide +kernel
theorem dX7_init_1196 : decode cX7_init 1196 = .ok (.iastore, 1) := by decide +kernel
theorem dX7_init_1197 : decode cX7_init 1197 = .ok (.dup, 1) := by decide +kernel
theorem dX7_init_1198 : decode cX7_init 1198 = .ok (.iconst 3, 1) := by decide +kernel
theorem dX7_init_1199 : decode cX7_init 1199 = .ok (.sipush 2186, 3) := by decide +kernel
theorem dX7_init_1202 : decode cX7_init 1202 = .ok (.iastore, 1) := by decide +kernel
theorem dX7_init_1203 : decode cX7_init 1203 = .ok (.dup, 1) := by decide +kernel
theorem dX7_init_1204 : decode cX7_init 1204 = .ok (.iconst 4, 1) := by decide +kernel
theorem dX7_init_1205 : decode cX7_init 1205 = .ok (.sipush 2233, 3) := by decide +kernel
theorem dX7_init_1208 : decode cX7_init 1208 = .ok (.iastore, 1) := by decide +kernel
theorem dX7_init_1209 : decode cX7_init 1209 = .ok (.dup, 1) := by decide +kernel
theorem dX7_init_1210 : decode cX7_init 1210 = .ok (.iconst 5, 1) := by decide +kernel
theorem dX7_init_1211 : decode cX7_init 1211 = .ok (.sipush 2282, 3) := by decide +kernel
theorem dX7_init_1214 : decode cX7_init 1214 = .ok (.iastore, 1) := by decide +kernel
theorem dX7_init_1215 : decode cX7_init 1215 = .ok (.dup, 1) := by decide +kernel
theorem dX7_init_1216 : decode cX7_init 1216 = .ok (.bipush 6, 2) := by decide +kernel
theorem dX7_init_1218 : decode cX7_init 1218 = .ok (.sipush 2332, 3) := by decide +kernel
theorem dX7_init_1221 : decode cX7_init 1221 = .ok (.iastore, 1) := by decide +kernel
theorem dX7_init_1222 : decode cX7_init 1222 = .ok (.dup, 1) := by decide +kernel
theorem dX7_init_1223 : decode cX7_init 1223 = .ok (.bipush 7, 2) := by decide +kernel
theorem dX7_init_1225 : decode cX7_init 1225 = .ok (.sipush 2383, 3) := by decide +kernel
theorem dX7_init_1228 : decode cX7_init 1228 = .ok (.iastore, 1) := by decide +kernel
theorem dX7_init_1229 : decode cX7_init 1229 = .ok (.dup, 1) := by decide +kernel
theorem dX7_init_1230 : decode cX7_init 1230 = .ok (.bipush 8, 2) := by decide +kernel
theorem dX7_init_1232 : decode cX7_init 1232 = .ok (.sipush 2435, 3) := by decide +kernel
theorem dX7_init_1235 : decode cX7_init 1235 = .ok (.iastore, 1) := by decide +kernel
theorem dX7_init_1236 : decode cX7_init 1236 = .ok (.dup, 1) := by decide +kernel
theorem dX7_init_1237 : decode cX7_init 1237 = .ok (.bipush 9, 2) := by decide +kernel
theorem dX7_init_1239 : decode cX7_init 1239 = .ok (.sipush 2489, 3) := by decide +kernel
theorem dX7_init_1242 : decode cX7_init 1242 = .ok (.iastore, 1) := by decide +kernel
theorem dX7_init_1243 : decode cX7_init 1243 = .ok (.dup, 1) := by decide +kernel
theorem dX7_init_1244 : decode cX7_init 1244 = .ok (.bipush 10, 2) := by decide +kernel
theorem dX7_init_1246 : decode cX7_init 1246 = .ok (.sipush 2543, 3) := by decide +kernel
theorem dX7_init_1249 : decode cX7_init 1249 = .ok (.iastore, 1) := by decide +kernel
theorem dX7_init_1250 : decode cX7_init 1250 = .ok (.dup, 1) := by decide +kernel
theorem dX7_init_1251 : decode cX7_init 1251 = .ok (.bipush 11, 2) := by decide +kernel
theorem dX7_init_1253 : decode cX7_init 1253 = .ok (.sipush 2599, 3) := by decide +kernel
theorem dX7_init_1256 : decode cX7_init 1256 = .ok (.iastore, 1) := by decide +kernel
theorem dX7_init_1257 : decode cX7_init 1257 = .ok (.dup, 1) := by decide +kernel
theorem dX7_init_1258 : decode cX7_init 1258 = .ok (.bipush 12, 2) := by decide +kernel
theorem dX7_init_1260 : decode cX7_init 1260 = .ok (.sipush 2656, 3) := by decide +kernel
theorem dX7_init_1263 : decode cX7_init 1263 = .ok (.iastore, 1) := by decide +kernel
theorem dX7_init_1264 : decode cX7_init 1264 = .ok (.dup, 1) := by decide +kernel
theorem dX7_init_1265 : decode cX7_init 1265 = .ok (.bipush 13, 2) := by decide +kernel
theorem dX7_init_1267 : decode cX7_init 1267 = .ok (.sipush 2714, 3) := by decide +kernel
theorem dX7_init_1270 : decode cX7_init 1270 = .ok (.iastore, 1) := by decide +kernel
theorem dX7_init_1271 : decode cX7_init 1271 = .ok (.dup, 1) := by decide +kernel
theorem dX7_init_1272 : decode cX7_init 1272 = .ok (.bipush 14, 2) := by decide +kernel
theorem dX7_init_1274 : decode cX7_init 1274 = .ok (.sipush 2774, 3) := by decide +kernel
theorem dX7_init_1277 : decode cX7_init 1277 = .ok (.iastore, 1) := by decide +kernel
theorem dX7_init_1278 : decode cX7_init 1278 = .ok (.dup, 1) := by decide +kernel
theorem dX7_init_1279 : decode cX7_init 1279 = .ok (.bipush 15, 2) := by decide +kernel
theorem dX7_init_1281 : decode cX7_init 1281 = .ok (.sipush 2834, 3) := by decide +kernel
theorem dX7_init_1284 : decode cX7_init 1284 = .ok (.iastore, 1) := by decide +kernel
theorem dX7_init_1285 : decode cX7_init 1285 = .ok (.dup, 1) := by decide +kernel
theorem dX7_init_1286 : decode cX7_init 1286 = .ok (.bipush 16, 2) := by decide +kernel
theorem dX7_init_1288 : decode cX7_init 1288 = .ok (.sipush 2896, 3) := by decide +kernel
theorem dX7_init_1291 : decode cX7_init 1291 = .ok (.iastore, 1) := by decide +kernel
theorem dX7_init_1292 : decode cX7_init 1292 = .ok (.dup, 1) := by decide +kernel
theorem dX7_init_1293 : decode cX7_init 1293 = .ok (.bipush 17, 2) := by decide +kernel
theorem dX7_init_1295 : decode cX7_init 1295 = .ok (.sipush 2960, 3) := by decide +kernel
theorem dX7_init_1298 : decode cX7_init 1298 = .ok (.iastore, 1) := by decide +kernel
theorem dX7_init_1299 : decode cX7_init 1299 = .ok (.dup, 1) := by decide +kernel
theorem dX7_init_1300 : decode cX7_init 1300 = .ok (.bipush 18, 2) := by decide +kernel
theorem dX7_init_1302 : decode cX7_init 1302 = .ok (.sipush 3025, 3) := by decide +kernel
theorem dX7_init_1305 : decode cX7_init 1305 = .ok (.iastore, 1) := by decide +kernel
theorem dX7_init_1306 : decode cX7_init 1306 = .ok (.dup, 1) := by decide +kernel
theorem dX7_init_1307 : decode cX7_init 1307 = .ok (.bipush 19, 2) := by decide +kernel
theorem dX7_init_1309 : decode cX7_init 1309 = .ok (.sipush 3091, 3) := by decide +kernel
theorem dX7_init_1312 : decode cX7_init 1312 = .ok (.iastore, 1) := by decide +kernel
theorem dX7_init_1313 : decode cX7_init 1313 = .ok (.dup, 1) := by decide +kernel
theorem dX7_init_1314 : decode cX7_init 1314 = .ok (.bipush 20, 2) := by decide +kernel
theorem dX7_init_1316 : decode cX7_init 1316 = .ok (.sipush 3158, 3) := by decide +kernel
theorem dX7_init_1319 : decode cX7_init 1319 = .ok (.iastore, 1) := by decide +kernel
theorem dX7_init_1320 : decode cX7_init 1320 = .ok (.dup, 1) := by decide +kernel
theorem dX7_init_1321 : decode cX7_init 1321 = .ok (.bipush 21, 2) := by decide +kernel
theorem dX7_init_1323 : decode cX7_init 1323 = .ok (.sipush 3228, 3) := by decide +kernel
theorem dX7_init_1326 : decode cX7_init 1326 = .ok (.iastore, 1) := by decide +kernel
theorem dX7_init_1327 : decode cX7_init 1327 = .ok (.dup, 1) := by decide +kernel
theorem dX7_init_1328 : decode cX7_init 1328 = .ok (.bipush 22, 2) := by decide +kernel
theorem dX7_init_1330 : decode cX7_init 1330 = .ok (.sipush 3298, 3) := by decide +kernel
theorem dX7_init_1333 : decode cX7_init 1333 = .ok (.iastore, 1) := by decide +kernel
theorem dX7_init_1334 : decode cX7_init 1334 = .ok (.dup, 1) := by decide +kernel
theorem dX7_init_1335 : decode cX7_init 1335 = .ok (.bipush 23, 2) := by decide +kernel
theorem dX7_init_1337 : decode cX7_init 1337 = .ok (.sipush 3371, 3) := by decide +kernel
theorem dX7_init_1340 : decode cX7_init 1340 = .ok (.iastore, 1) := by decide +kernel
theorem dX7_init_1341 : decode cX7_init 1341 = .ok (.dup, 1) := by decide +kernel
theorem dX7_init_1342 : decode cX7_init 1342 = .ok (.bipush 24, 2) := by decide +kernel
theorem dX7_init_1344 : decode cX7_init 1344 = .ok (.sipush 3444, 3) := by decide +kernel
theorem dX7_init_1347 : decode cX7_init 1347 = .ok (.iastore, 1) := by decide +kernel
theorem dX7_init_1348 : decode cX7_init 1348 = .ok (.dup, 1) := by decide +kernel
theorem dX7_init_1349 : decode cX7_init 1349 = .ok (.bipush 25, 2) := by decide +kernel
theorem dX7_init_1351 : decode cX7_init 1351 = .ok (.sipush 3520, 3) := by decide +kernel
theorem dX7_init_1354 : decode cX7_init 1354 = .ok (.iastore, 1) := by decide +kernel
theorem dX7_init_1355 : decode cX7_init 1355 = .ok (.dup, 1) := by decide +kernel
theorem dX7_init_1356 : decode cX7_init 1356 = .ok (.bipush 26, 2) := by decide +kernel
theorem dX7_init_1358 : decode cX7_init 1358 = .ok (.sipush 3597, 3) := by decide +kernel
theorem dX7_init_1361 : decode cX7_init 1361 = .ok (.iastore, 1) := by decide +kernel
theorem dX7_init_1362 : decode cX7_init 1362 = .ok (.dup, 1) := by decide +kernel
theorem dX7_init_1363 : decode cX7_init 1363 = .ok (.bipush 27, 2) := by decide +kernel
theorem dX7_init_1365 : decode cX7_init 1365 = .ok (.sipush 3676, 3) := by decide +kernel
theorem dX7_init_1368 : decode cX7_init 1368 = .ok (.iastore, 1) := by decide +kernel
theorem dX7_init_1369 : decode cX7_init 1369 = .ok (.dup, 1) := by decide +kernel
theorem dX7_init_1370 : decode cX7_init 1370 = .ok (.bipush 28, 2) := by decide +kernel
theorem dX7_init_1372 : decode cX7_init 1372 = .ok (.sipush 3756, 3) := by decide +kernel
theorem dX7_init_1375 : decode cX7_init 1375 = .ok (.iastore, 1) := by decide +kernel
theorem dX7_init_1376 : decode cX7_init 1376 = .ok (.dup, 1) := by decide +kernel
theorem dX7_init_1377 : decode cX7_init 1377 = .ok (.bipush 29, 2) := by decide +kernel
theorem dX7_init_1379 : decode cX7_init 1379 = .ok (.sipush 3838, 3) := by decide +kernel
theorem dX7_init_1382 : decode cX7_init 1382 = .ok (.iastore, 1) := by decide +kernel
theorem dX7_init_1383 : decode cX7_init 1383 = .ok (.dup, 1) := by decide +kernel
theorem dX7_init_1384 : decode cX7_init 1384 = .ok (.bipush 30, 2) := by decide +kernel
theorem dX7_init_1386 : decode cX7_init 1386 = .ok (.sipush 3922, 3) := by decide +kernel
theorem dX7_init_1389 : decode cX7_init 1389 = .ok (.iastore, 1) := by decide +kernel
theorem dX7_init_1390 : decode cX7_init 1390 = .ok (.dup, 1) := by decide +kernel
theorem dX7_init_1391 : decode cX7_init 1391 = .ok (.bipush 31, 2) := by decide +kernel
theorem dX7_init_1393 : decode cX7_init 1393 = .ok (.sipush 4008, 3) := by decide +kernel
theorem dX7_init_1396 : decode cX7_init 1396 = .ok (.iastore, 1) := by decide +kernel
theorem dX7_init_1397 : decode cX7_init 1397 = .ok (.putfield 81, 3) := by decide +kernel
theorem dX7_init_1400 : decode cX7_init 1400 = .ok (.aload_n 0, 1) := by decide +kernel
theorem dX7_init_1401 : decode cX7_init 1401 = .ok (.bipush 16, 2) := by decide +kernel
theorem dX7_init_1403 : decode cX7_init 1403 = .ok (.newarray .int, 2) := by decide +kernel
theorem dX7_init_1405 : decode cX7_init 1405 = .ok (.dup, 1) := by decide +kernel
theorem dX7_init_1406 : decode cX7_init 1406 = .ok (.iconst 0, 1) := by decide +kernel
theorem dX7_init_1407 : decode cX7_init 1407 = .ok (.iconst 0, 1) := by decide +kernel
theorem dX7_init_1408 : decode cX7_init 1408 = .ok (.iastore, 1) := by decide +kernel
theorem dX7_init_1409 : decode cX7_init 1409 = .ok (.dup, 1) := by decide +kernel
theorem dX7_init_1410 : decode cX7_init 1410 = .ok (.iconst 1, 1) := by decide +kernel
theorem dX7_init_1411 : decode cX7_init 1411 = .ok (.sipush (-20456), 3) := by decide +kernel
theorem dX7_init_1414 : decode cX7_init 1414 = .ok (.iastore, 1) := by decide +kernel
theorem dX7_init_1415 : decode cX7_init 1415 = .ok (.dup, 1) := by decide +kernel
theorem dX7_init_1416 : decode cX7_init 1416 = .ok (.iconst 2, 1) := by decide +kernel
theorem dX7_init_1417 : decode cX7_init 1417 = .ok (.sipush (-12896), 3) := by decide +kernel
theorem dX7_init_1420 : decode cX7_init 1420 = .ok (.iastore, 1) := by decide +kernel
theorem dX7_init_1421 : decode cX7_init 1421 = .ok (.dup, 1) := by decide +kernel
theorem dX7_init_1422 : decode cX7_init 1422 = .ok (.iconst 3, 1) := by decide +kernel
theorem dX7_init_1423 : decode cX7_init 1423 = .ok (.sipush (-8968), 3) := by decide +kernel
theorem dX7_init_1426 : decode cX7_init 1426 = .ok (.iastore, 1) := by decide +kernel
theorem dX7_init_1427 : decode cX7_init 1427 = .ok (.dup, 1) := by decide +kernel
theorem dX7_init_1428 : decode cX7_init 1428 = .ok (.iconst 4, 1) := by decide +kernel
theorem dX7_init_1429 : decode cX7_init 1429 = .ok (.sipush (-6288), 3) := by decide +kernel
theorem dX7_init_1432 : decode cX7_init 1432 = .ok (.iastore, 1) := by decide +kernel
theorem dX7_init_1433 : decode cX7_init 1433 = .ok (.dup, 1) := by decide +kernel
theorem dX7_init_1434 : decode cX7_init 1434 = .ok (.iconst 5, 1) := by decide +kernel
theorem dX7_init_1435 : decode cX7_init 1435 = .ok (.sipush (-4240), 3) := by decide +kernel
theorem dX7_init_1438 : decode cX7_init 1438 = .ok (.iastore, 1) := by decide +kernel
theorem dX7_init_1439 : decode cX7_init 1439 = .ok (.dup, 1) := by decide +kernel
theorem dX7_init_1440 : decode cX7_init 1440 = .ok (.bipush 6, 2) := by decide +kernel
theorem dX7_init_1442 : decode cX7_init 1442 = .ok (.sipush (-2584), 3) := by decide +kernel
theorem dX7_init_1445 : decode cX7_init 1445 = .ok (.iastore, 1) := by decide +kernel
theorem dX7_init_1446 : decode cX7_init 1446 = .ok (.dup, 1) := by decide +kernel
theorem dX7_init_1447 : decode cX7_init 1447 = .ok (.bipush 7, 2) := by decide +kernel
theorem dX7_init_1449 : decode cX7_init 1449 = .ok (.sipush (-1200), 3) := by decide +kernel
theorem dX7_init_1452 : decode cX7_init 1452 = .ok (.iastore, 1) := by decide +kernel
theorem dX7_init_1453 : decode cX7_init 1453 = .ok (.dup, 1) := by decide +kernel
theorem dX7_init_1454 : decode cX7_init 1454 = .ok (.bipush 8, 2) := by decide +kernel
theorem dX7_init_1456 : decode cX7_init 1456 = .ok (.sipush 20456, 3) := by decide +kernel
theorem dX7_init_1459 : decode cX7_init 1459 = .ok (.iastore, 1) := by decide +kernel
theorem dX7_init_1460 : decode cX7_init 1460 = .ok (.dup, 1) := by decide +kernel
theorem dX7_init_1461 : decode cX7_init 1461 = .ok (.bipush 9, 2) := by decide +kernel
theorem dX7_init_1463 : decode cX7_init 1463 = .ok (.sipush 12896, 3) := by decide +kernel
theorem dX7_init_1466 : decode cX7_init 1466 = .ok (.iastore, 1) := by decide +kernel
theorem dX7_init_1467 : decode cX7_init 1467 = .ok (.dup, 1) := by decide +kernel
theorem dX7_init_1468 : decode cX7_init 1468 = .ok (.bipush 10, 2) := by decide +kernel
theorem dX7_init_1470 : decode cX7_init 1470 = .ok (.sipush 8968, 3) := by decide +kernel
theorem dX7_init_1473 : decode cX7_init 1473 = .ok (.iastore, 1) := by decide +kernel
theorem dX7_init_1474 : decode cX7_init 1474 = .ok (.dup, 1) := by decide +kernel
theorem dX7_init_1475 : decode cX7_init 1475 = .ok (.bipush 11, 2) := by decide +kernel
theorem dX7_init_1477 : decode cX7_init 1477 = .ok (.sipush 6288, 3) := by decide +kernel
theorem dX7_init_1480 : decode cX7_init 1480 = .ok (.iastore, 1) := by decide +kernel
theorem dX7_init_1481 : decode cX7_init 1481 = .ok (.dup, 1) := by decide +kernel
theorem dX7_init_1482 : decode cX7_init 1482 = .ok (.bipush 12, 2) := by decide +kernel
theorem dX7_init_1484 : decode cX7_init 1484 = .ok (.sipush 4240, 3) := by decide +kernel
theorem dX7_init_1487 : decode cX7_init 1487 = .ok (.iastore, 1) := by decide +kernel
theorem dX7_init_1488 : decode cX7_init 1488 = .ok (.dup, 1) := by decide +kernel
theorem dX7_init_1489 : decode cX7_init 1489 = .ok (.bipush 13, 2) := by decide +kernel
theorem dX7_init_1491 : decode cX7_init 1491 = .ok (.sipush 2584, 3) := by decide +kernel
theorem dX7_init_1494 : decode cX7_init 1494 = .ok (.iastore, 1) := by decide +kernel
theorem dX7_init_1495 : decode cX7_init 1495 = .ok (.dup, 1) := by decide +kernel
theorem dX7_init_1496 : decode cX7_init 1496 = .ok (.bipush 14, 2) := by decide +kernel
theorem dX7_init_1498 : decode cX7_init 1498 = .ok (.sipush 1200, 3) := by decide +kernel
theorem dX7_init_1501 : decode cX7_init 1501 = .ok (.iastore, 1) := by decide +kernel
theorem dX7_init_1502 : decode cX7_init 1502 = .ok (.dup, 1) := by decide +kernel
theorem dX7_init_1503 : decode cX7_init 1503 = .ok (.bipush 15, 2) := by decide +kernel
theorem dX7_init_1505 : decode cX7_init 1505 = .ok (.iconst 0, 1) := by decide +kernel
theorem dX7_init_1506 : decode cX7_init 1506 = .ok (.iastore, 1) := by decide +kernel
theorem dX7_init_1507 : decode cX7_init 1507 = .ok (.putfield 84, 3) := by decide +kernel
theorem dX7_init_1510 : decode cX7_init 1510 = .ok (.aload_n 0, 1) := by decide +kernel
theorem dX7_init_1511 : decode cX7_init 1511 = .ok (.iconst 4, 1) := by decide +kernel
theorem dX7_init_1512 : decode cX7_init 1512 = .ok (.newarray .int, 2) := by decide +kernel
theorem dX7_init_1514 : decode cX7_init 1514 = .ok (.dup, 1) := by decide +kernel
theorem dX7_init_1515 : decode cX7_init 1515 = .ok (.iconst 0, 1) := by decide +kernel
theorem dX7_init_1516 : decode cX7_init 1516 = .ok (.sipush (-7408), 3) := by decide +kernel
theorem dX7_init_1519 : decode cX7_init 1519 = .ok (.iastore, 1) := by decide +kernel
theorem dX7_init_1520 : decode cX7_init 1520 = .ok (.dup, 1) := by decide +kernel
theorem dX7_init_1521 : decode cX7_init 1521 = .ok (.iconst 1, 1) := by decide +kernel
theorem dX7_init_1522 : decode cX7_init 1522 = .ok (.sipush (-1616), 3) := by decide +kernel
theorem dX7_init_1525 : decode cX7_init 1525 = .ok (.iastore, 1) := by decide +kernel
theorem dX7_init_1526 : decode cX7_init 1526 = .ok (.dup, 1) := by decide +kernel
theorem dX7_init_1527 : decode cX7_init 1527 = .ok (.iconst 2, 1) := by decide +kernel
theorem dX7_init_1528 : decode cX7_init 1528 = .ok (.sipush 7408, 3) := by decide +kernel
theorem dX7_init_1531 : decode cX7_init 1531 = .ok (.iastore, 1) := by decide +kernel
theorem dX7_init_1532 : decode cX7_init 1532 = .ok (.dup, 1) := by decide +kernel
theorem dX7_init_1533 : decode cX7_init 1533 = .ok (.iconst 3, 1) := by decide +kernel
theorem dX7_init_1534 : decode cX7_init 1534 = .ok (.sipush 1616, 3) := by decide +kernel
theorem dX7_init_1537 : decode cX7_init 1537 = .ok (.iastore, 1) := by decide +kernel
theorem dX7_init_1538 : decode cX7_init 1538 = .ok (.putfield 87, 3) := by decide +kernel
theorem dX7_init_1541 : decode cX7_init 1541 = .ok (.aload_n 0, 1) := by decide +kernel
theorem dX7_init_1542 : decode cX7_init 1542 = .ok (.bipush 16, 2) := by decide +kernel
theorem dX7_init_1544 : decode cX7_init 1544 = .ok (.newarray .int, 2) := by decide +kernel
theorem dX7_init_1546 : decode cX7_init 1546 = .ok (.dup, 1) := by decide +kernel
theorem dX7_init_1547 : decode cX7_init 1547 = .ok (.iconst 0, 1) := by decide +kernel
theorem dX7_init_1548 : decode cX7_init 1548 = .ok (.bipush (-60), 2) := by decide +kernel
theorem dX7_init_1550 : decode cX7_init 1550 = .ok (.iastore, 1) := by decide +kernel
theorem dX7_init_1551 : decode cX7_init 1551 = .ok (.dup, 1) := by decide +kernel
theorem dX7_init_1552 : decode cX7_init 1552 = .ok (.iconst 1, 1) := by decide +kernel
theorem dX7_init_1553 : decode cX7_init 1553 = .ok (.sipush 3042, 3) := by decide +kernel
theorem dX7_init_1556 : decode cX7_init 1556 = .ok (.iastore, 1) := by decide +kernel
theorem dX7_init_1557 : decode cX7_init 1557 = .ok (.dup, 1) := by decide +kernel
theorem dX7_init_1558 : decode cX7_init 1558 = .ok (.iconst 2, 1) := by decide +kernel
theorem dX7_init_1559 : decode cX7_init 1559 = .ok (.sipush 1198, 3) := by decide +kernel
theorem dX7_init_1562 : decode cX7_init 1562 = .ok (.iastore, 1) := by decide +kernel
theorem dX7_init_1563 : decode cX7_init 1563 = .ok (.dup, 1) := by decide +kernel
theorem dX7_init_1564 : decode cX7_init 1564 = .ok (.iconst 3, 1) := by decide +kernel
theorem dX7_init_1565 : decode cX7_init 1565 = .ok (.sipush 538, 3) := by decide +kernel
theorem dX7_init_1568 : decode cX7_init 1568 = .ok (.iastore, 1) := by decide +kernel
theorem dX7_init_1569 : decode cX7_init 1569 = .ok (.dup, 1) := by decide +kernel
theorem dX7_init_1570 : decode cX7_init 1570 = .ok (.iconst 4, 1) := by decide +kernel
theorem dX7_init_1571 : decode cX7_init 1571 = .ok (.sipush 334, 3) := by decide +kernel
theorem dX7_init_1574 : decode cX7_init 1574 = .ok (.iastore, 1) := by decide +kernel
theorem dX7_init_1575 : decode cX7_init 1575 = .ok (.dup, 1) := by decide +kernel
theorem dX7_init_1576 : decode cX7_init 1576 = .ok (.iconst 5, 1) := by decide +kernel
theorem dX7_init_1577 : decode cX7_init 1577 = .ok (.sipush 172, 3) := by decide +kernel
theorem dX7_init_1580 : decode cX7_init 1580 = .ok (.iastore, 1) := by decide +kernel
theorem dX7_init_1581 : decode cX7_init 1581 = .ok (.dup, 1) := by decide +kernel
theorem dX7_init_1582 : decode cX7_init 1582 = .ok (.bipush 6, 2) := by decide +kernel
theorem dX7_init_1584 : decode cX7_init 1584 = .ok (.bipush 58, 2) := by decide +kernel
theorem dX7_init_1586 : decode cX7_init 1586 = .ok (.iastore, 1) := by decide +kernel
theorem dX7_init_1587 : decode cX7_init 1587 = .ok (.dup, 1) := by decide +kernel
theorem dX7_init_1588 : decode cX7_init 1588 = .ok (.bipush 7, 2) := by decide +kernel
theorem dX7_init_1590 : decode cX7_init 1590 = .ok (.bipush (-30), 2) := by decide +kernel
theorem dX7_init_1592 : decode cX7_init 1592 = .ok (.iastore, 1) := by decide +kernel
theorem dX7_init_1593 : decode cX7_init 1593 = .ok (.dup, 1) := by decide +kernel
theorem dX7_init_1594 : decode cX7_init 1594 = .ok (.bipush 8, 2) := by decide +kernel
theorem dX7_init_1596 : decode cX7_init 1596 = .ok (.sipush 3042, 3) := by decide +kernel
theorem dX7_init_1599 : decode cX7_init 1599 = .ok (.iastore, 1) := by decide +kernel
theorem dX7_init_1600 : decode cX7_init 1600 = .ok (.dup, 1) := by decide +kernel
theorem dX7_init_1601 : decode cX7_init 1601 = .ok (.bipush 9, 2) := by decide +kernel
theorem dX7_init_1603 : decode cX7_init 1603 = .ok (.sipush 1198, 3) := by decide +kernel
theorem dX7_init_1606 : decode cX7_init 1606 = .ok (.iastore, 1) := by decide +kernel
theorem dX7_init_1607 : decode cX7_init 1607 = .ok (.dup, 1) := by decide +kernel
theorem dX7_init_1608 : decode cX7_init 1608 = .ok (.bipush 10, 2) := by decide +kernel
theorem dX7_init_1610 : decode cX7_init 1610 = .ok (.sipush 538, 3) := by decide +kernel
theorem dX7_init_1613 : decode cX7_init 1613 = .ok (.iastore, 1) := by decide +kernel
theorem dX7_init_1614 : decode cX7_init 1614 = .ok (.dup, 1) := by decide +kernel
theorem dX7_init_1615 : decode cX7_init 1615 = .ok (.bipush 11, 2) := by decide +kernel
theorem dX7_init_1617 : decode cX7_init 1617 = .ok (.sipush 334, 3) := by decide +kernel
theorem dX7_init_1620 : decode cX7_init 1620 = .ok (.iastore, 1) := by decide +kernel
theorem dX7_init_1621 : decode cX7_init 1621 = .ok (.dup, 1) := by decide +kernel
theorem dX7_init_1622 : decode cX7_init 1622 = .ok (.bipush 12, 2) := by decide +kernel
theorem dX7_init_1624 : decode cX7_init 1624 = .ok (.sipush 172, 3) := by decide +kernel
theorem dX7_init_1627 : decode cX7_init 1627 = .ok (.iastore, 1) := by decide +kernel
theorem dX7_init_1628 : decode cX7_init 1628 = .ok (.dup, 1) := by decide +kernel
theorem dX7_init_1629 : decode cX7_init 1629 = .ok (.bipush 13, 2) := by decide +kernel
theorem dX7_init_1631 : decode cX7_init 1631 = .ok (.bipush 58, 2) := by decide +kernel
theorem dX7_init_1633 : decode cX7_init 1633 = .ok (.iastore, 1) := by decide +kernel
theorem dX7_init_1634 : decode cX7_init 1634 = .ok (.dup, 1) := by decide +kernel
theorem dX7_init_1635 : decode cX7_init 1635 = .ok (.bipush 14, 2) := by decide +kernel
theorem dX7_init_1637 : decode cX7_init 1637 = .ok (.bipush (-30), 2) := by decide +kernel
theorem dX7_init_1639 : decode cX7_init 1639 = .ok (.iastore, 1) := by decide +kernel
theorem dX7_init_1640 : decode cX7_init 1640 = .ok (.dup, 1) := by decide +kernel
theorem dX7_init_1641 : decode cX7_init 1641 = .ok (.bipush 15, 2) := by decide +kernel
theorem dX7_init_1643 : decode cX7_init 1643 = .ok (.bipush (-60), 2) := by decide +kernel
theorem dX7_init_1645 : decode cX7_init 1645 = .ok (.iastore, 1) := by decide +kernel
theorem dX7_init_1646 : decode cX7_init 1646 = .ok (.putfield 90, 3) := by decide +kernel
theorem dX7_init_1649 : decode cX7_init 1649 = .ok (.aload_n 0, 1) := by decide +kernel
theorem dX7_init_1650 : decode cX7_init 1650 = .ok (.iconst 4, 1) := by decide +kernel
theorem dX7_init_1651 : decode cX7_init 1651 = .ok (.newarray .int, 2) := by decide +kernel
theorem dX7_init_1653 : decode cX7_init 1653 = .ok (.dup, 1) := by decide +kernel
theorem dX7_init_1654 : decode cX7_init 1654 = .ok (.iconst 0, 1) := by decide +kernel
theorem dX7_init_1655 : decode cX7_init 1655 = .ok (.sipush 798, 3) := by decide +kernel
theorem dX7_init_1658 : decode cX7_init 1658 = .ok (.iastore, 1) := by decide +kernel
theorem dX7_init_1659 : decode cX7_init 1659 = .ok (.dup, 1) := by decide +kernel
theorem dX7_init_1660 : decode cX7_init 1660 = .ok (.iconst 1, 1) := by decide +kernel
theorem dX7_init_1661 : decode cX7_init 1661 = .ok (.sipush (-214), 3) := by decide +kernel
theorem dX7_init_1664 : decode cX7_init 1664 = .ok (.iastore, 1) := by decide +kernel
theorem dX7_init_1665 : decode cX7_init 1665 = .ok (.dup, 1) := by decide +kernel
theorem dX7_init_1666 : decode cX7_init 1666 = .ok (.iconst 2, 1) := by decide +kernel
theorem dX7_init_1667 : decode cX7_init 1667 = .ok (.sipush 798, 3) := by decide +kernel
theorem dX7_init_1670 : decode cX7_init 1670 = .ok (.iastore, 1) := by decide +kernel
theorem dX7_init_1671 : decode cX7_init 1671 = .ok (.dup, 1) := by decide +kernel
theorem dX7_init_1672 : decode cX7_init 1672 = .ok (.iconst 3, 1) := by decide +kernel
theorem dX7_init_1673 : decode cX7_init 1673 = .ok (.sipush (-214), 3) := by decide +kernel
theorem dX7_init_1676 : decode cX7_init 1676 = .ok (.iastore, 1) := by decide +kernel
theorem dX7_init_1677 : decode cX7_init 1677 = .ok (.putfield 93, 3) := by decide +kernel
theorem dX7_init_1680 : decode cX7_init 1680 = .ok (.aload_n 0, 1) := by decide +kernel
theorem dX7_init_1681 : decode cX7_init 1681 = .ok (.bipush 16, 2) := by decide +kernel
theorem dX7_init_1683 : decode cX7_init 1683 = .ok (.newarray .int, 2) := by decide +kernel
theorem dX7_init_1685 : decode cX7_init 1685 = .ok (.dup, 1) := by decide +kernel
theorem dX7_init_1686 : decode cX7_init 1686 = .ok (.iconst 0, 1) := by decide +kernel
theorem dX7_init_1687 : decode cX7_init 1687 = .ok (.sipush (-280), 3) := by decide +kernel
theorem dX7_init_1690 : decode cX7_init 1690 = .ok (.iastore, 1) := by decide +kernel
theorem dX7_init_1691 : decode cX7_init 1691 = .ok (.dup, 1) := by decide +kernel
theorem dX7_init_1692 : decode cX7_init 1692 = .ok (.iconst 1, 1) := by decide +kernel
theorem dX7_init_1693 : decode cX7_init 1693 = .ok (.sipush (-280), 3) := by decide +kernel
theorem dX7_init_1696 : decode cX7_init 1696 = .ok (.iastore, 1) := by decide +kernel
theorem dX7_init_1697 : decode cX7_init 1697 = .ok (.dup, 1) := by decide +kernel
theorem dX7_init_1698 : decode cX7_init 1698 = .ok (.iconst 2, 1) := by decide +kernel
theorem dX7_init_1699 : decode cX7_init 1699 = .ok (.sipush (-23352), 3) := by decide +kernel
theorem dX7_init_1702 : decode cX7_init 1702 = .ok (.iastore, 1) := by decide +kernel
theorem dX7_init_1703 : decode cX7_init 1703 = .ok (.dup, 1) := by decide +kernel
theorem dX7_init_1704 : decode cX7_init 1704 = .ok (.iconst 3, 1) := by decide +kernel
theorem dX7_init_1705 : decode cX7_init 1705 = .ok (.sipush (-17560), 3) := by decide +kernel
theorem dX7_init_1708 : decode cX7_init 1708 = .ok (.iastore, 1) := by decide +kernel
theorem dX7_init_1709 : decode cX7_init 1709 = .ok (.dup, 1) := by decide +kernel
theorem dX7_init_1710 : decode cX7_init 1710 = .ok (.iconst 4, 1) := by decide +kernel
theorem dX7_init_1711 : decode cX7_init 1711 = .ok (.sipush (-14120), 3) := by decide +kernel
theorem dX7_init_1714 : decode cX7_init 1714 = .ok (.iastore, 1) := by decide +kernel
theorem dX7_init_1715 : decode cX7_init 1715 = .ok (.dup, 1) := by decide +kernel
theorem dX7_init_1716 : decode cX7_init 1716 = .ok (.iconst 5, 1) := by decide +kernel
theorem dX7_init_1717 : decode cX7_init 1717 = .ok (.sipush (-11664), 3) := by decide +kernel
theorem dX7_init_1720 : decode cX7_init 1720 = .ok (.iastore, 1) := by decide +kernel
theorem dX7_init_1721 : decode cX7_init 1721 = .ok (.dup, 1) := by decide +kernel
theorem dX7_init_1722 : decode cX7_init 1722 = .ok (.bipush 6, 2) := by decide +kernel
theorem dX7_init_1724 : decode cX7_init 1724 = .ok (.sipush (-9752), 3) := by decide +kernel
theorem dX7_init_1727 : decode cX7_init 1727 = .ok (.iastore, 1) := by decide +kernel
theorem dX7_init_1728 : decode cX7_init 1728 = .ok (.dup, 1) := by decide +kernel
theorem dX7_init_1729 : decode cX7_init 1729 = .ok (.bipush 7, 2) := by decide +kernel
theorem dX7_init_1731 : decode cX7_init 1731 = .ok (.sipush (-8184), 3) := by decide +kernel
theorem dX7_init_1734 : decode cX7_init 1734 = .ok (.iastore, 1) := by decide +kernel
theorem dX7_init_1735 : decode cX7_init 1735 = .ok (.dup, 1) := by decide +kernel
theorem dX7_init_1736 : decode cX7_init 1736 = .ok (.bipush 8, 2) := by decide +kernel
theorem dX7_init_1738 : decode cX7_init 1738 = .ok (.sipush (-6864), 3) := by decide +kernel
theorem dX7_init_1741 : decode cX7_init 1741 = .ok (.iastore, 1) := by decide +kernel
theorem dX7_init_1742 : decode cX7_init 1742 = .ok (.dup, 1) := by decide +kernel
theorem dX7_init_1743 : decode cX7_init 1743 = .ok (.bipush 9, 2) := by decide +kernel
theorem dX7_init_1745 : decode cX7_init 1745 = .ok (.sipush (-5712), 3) := by decide +kernel
theorem dX7_init_1748 : decode cX7_init 1748 = .ok (.iastore, 1) := by decide +kernel
theorem dX7_init_1749 : decode cX7_init 1749 = .ok (.dup, 1) := by decide +kernel
theorem dX7_init_1750 : decode cX7_init 1750 = .ok (.bipush 10, 2) := by decide +kernel
theorem dX7_init_1752 : decode cX7_init 1752 = .ok (.sipush (-4696), 3) := by decide +kernel
theorem dX7_init_1755 : decode cX7_init 1755 = .ok (.iastore, 1) := by decide +kernel
theorem dX7_init_1756 : decode cX7_init 1756 = .ok (.dup, 1) := by decide +kernel
theorem dX7_init_1757 : decode cX7_init 1757 = .ok (.bipush 11, 2) := by decide +kernel
theorem dX7_init_1759 : decode cX7_init 1759 = .ok (.sipush (-3784), 3) := by decide +kernel
theorem dX7_init_1762 : decode cX7_init 1762 = .ok (.iastore, 1) := by decide +kernel
theorem dX7_init_1763 : decode cX7_init 1763 = .ok (.dup, 1) := by decide +kernel
theorem dX7_init_1764 : decode cX7_init 1764 = .ok (.bipush 12, 2) := by decide +kernel
theorem dX7_init_1766 : decode cX7_init 1766 = .ok (.sipush (-2960), 3) := by decide +kernel
theorem dX7_init_1769 : decode cX7_init 1769 = .ok (.iastore, 1) := by decide +kernel
theorem dX7_init_1770 : decode cX7_init 1770 = .ok (.dup, 1) := by decide +kernel
theorem dX7_init_1771 : decode cX7_init 1771 = .ok (.bipush 13, 2) := by decide +kernel
theorem dX7_init_1773 : decode cX7_init 1773 = .ok (.sipush (-2208), 3) := by decide +kernel
theorem dX7_init_1776 : decode cX7_init 1776 = .ok (.iastore, 1) := by decide +kernel
theorem dX7_init_1777 : decode cX7_init 1777 = .ok (.dup, 1) := by decide +kernel
theorem dX7_init_1778 : decode cX7_init 1778 = .ok (.bipush 14, 2) := by decide +kernel
theorem dX7_init_1780 : decode cX7_init 1780 = .ok (.sipush (-1520), 3) := by decide +kernel
theorem dX7_init_1783 : decode cX7_init 1783 = .ok (.iastore, 1) := by decide +kernel
theorem dX7_init_1784 : decode cX7_init 1784 = .ok (.dup, 1) := by decide +kernel
theorem dX7_init_1785 : decode cX7_init 1785 = .ok (.bipush 15, 2) := by decide +kernel
theorem dX7_init_1787 : decode cX7_init 1787 = .ok (.sipush (-880), 3) := by decide +kernel
theorem dX7_init_1790 : decode cX7_init 1790 = .ok (.iastore, 1) := by decide +kernel
theorem dX7_init_1791 : decode cX7_init 1791 = .ok (.putfield 96, 3) := by decide +kernel
theorem dX7_init_1794 : decode cX7_init 1794 = .ok (.aload_n 0, 1) := by decide +kernel
theorem dX7_init_1795 : decode cX7_init 1795 = .ok (.bipush 32, 2) := by decide +kernel
theorem dX7_init_1797 : decode cX7_init 1797 = .ok (.newarray .int, 2) := by decide +kernel
theorem dX7_init_1799 : decode cX7_init 1799 = .ok (.dup, 1) := by decide +kernel
theorem dX7_init_1800 : decode cX7_init 1800 = .ok (.iconst 0, 1) := by decide +kernel
theorem dX7_init_1801 : decode cX7_init 1801 = .ok (.sipush (-136), 3) := by decide +kernel
theorem dX7_init_1804 : decode cX7_init 1804 = .ok (.iastore, 1) := by decide +kernel
theorem dX7_init_1805 : decode cX7_init 1805 = .ok (.dup, 1) := by decide +kernel
theorem dX7_init_1806 : decode cX7_init 1806 = .ok (.iconst 1, 1) := by decide +kernel
theorem dX7_init_1807 : decode cX7_init 1807 = .ok (.sipush (-136), 3) := by decide +kernel
theorem dX7_init_1810 : decode cX7_init 1810 = .ok (.iastore, 1) := by decide +kernel
theorem dX7_init_1811 : decode cX7_init 1811 = .ok (.dup, 1) := by decide +kernel
theorem dX7_init_1812 : decode cX7_init 1812 = .ok (.iconst 2, 1) := by decide +kernel
theorem dX7_init_1813 : decode cX7_init 1813 = .ok (.sipush (-136), 3) := by decide +kernel
theorem dX7_init_1816 : decode cX7_init 1816 = .ok (.iastore, 1) := by decide +kernel
theorem dX7_init_1817 : decode cX7_init 1817 = .ok (.dup, 1) := by decide +kernel
theorem dX7_init_1818 : decode cX7_init 1818 = .ok (.iconst 3, 1) := by decide +kernel
theorem dX7_init_1819 : decode cX7_init 1819 = .ok (.sipush (-136), 3) := by decide +kernel
theorem dX7_init_1822 : decode cX7_init 1822 = .ok (.iastore, 1) := by decide +kernel
theorem dX7_init_1823 : decode cX7_init 1823 = .ok (.dup, 1) := by decide +kernel
theorem dX7_init_1824 : decode cX7_init 1824 = .ok (.iconst 4, 1) := by decide +kernel
theorem dX7_init_1825 : decode cX7_init 1825 = .ok (.sipush (-24808), 3) := by decide +kernel
theorem dX7_init_1828 : decode cX7_init 1828 = .ok (.iastore, 1) := by decide +kernel
theorem dX7_init_1829 : decode cX7_init 1829 = .ok (.dup, 1) := by decide +kernel
theorem dX7_init_1830 : decode cX7_init 1830 = .ok (.iconst 5, 1) := by decide +kernel
theorem dX7_init_1831 : decode cX7_init 1831 = .ok (.sipush (-21904), 3) := by decide +kernel
theorem dX7_init_1834 : decode cX7_init 1834 = .ok (.iastore, 1) := by decide +kernel
theorem dX7_init_1835 : decode cX7_init 1835 = .ok (.dup, 1) := by decide +kernel
theorem dX7_init_1836 : decode cX7_init 1836 = .ok (.bipush 6, 2) := by decide +kernel
theorem dX7_init_1838 : decode cX7_init 1838 = .ok (.sipush (-19008), 3) := by decide +kernel
theorem dX7_init_1841 : decode cX7_init 1841 = .ok (.iastore, 1) := by decide +kernel
theorem dX7_init_1842 : decode cX7_init 1842 = .ok (.dup, 1) := by decide +kernel
theorem dX7_init_1843 : decode cX7_init 1843 = .ok (.bipush 7, 2) := by decide +kernel
theorem dX7_init_1845 : decode cX7_init 1845 = .ok (.sipush (-16704), 3) := by decide +kernel
theorem dX7_init_1848 : decode cX7_init 1848 = .ok (.iastore, 1) := by decide +kernel
theorem dX7_init_1849 : decode cX7_init 1849 = .ok (.dup, 1) := by decide +kernel
theorem dX7_init_1850 : decode cX7_init 1850 = .ok (.bipush 8, 2) := by decide +kernel
theorem dX7_init_1852 : decode cX7_init 1852 = .ok (.sipush (-14984), 3) := by decide +kernel
theorem dX7_init_1855 : decode cX7_init 1855 = .ok (.iastore, 1) := by decide +kernel
theorem dX7_init_1856 : decode cX7_init 1856 = .ok (.dup, 1) := by decide +kernel
theorem dX7_init_1857 : decode cX7_init 1857 = .ok (.bipush 9, 2) := by decide +kernel
theorem dX7_init_1859 : decode cX7_init 1859 = .ok (.sipush (-13512), 3) := by decide +kernel
theorem dX7_init_1862 : decode cX7_init 1862 = .ok (.iastore, 1) := by decide +kernel
theorem dX7_init_1863 : decode cX7_init 1863 = .ok (.dup, 1) := by decide +kernel
theorem dX7_init_1864 : decode cX7_init 1864 = .ok (.bipush 10, 2) := by decide +kernel
theorem dX7_init_1866 : decode cX7_init 1866 = .ok (.sipush (-12280), 3) := by decide +kernel
theorem dX7_init_1869 : decode cX7_init 1869 = .ok (.iastore, 1) := by decide +kernel
theorem dX7_init_1870 : decode cX7_init 1870 = .ok (.dup, 1) := by decide +kernel
theorem dX7_init_1871 : decode cX7_init 1871 = .ok (.bipush 11, 2) := by decide +kernel
theorem dX7_init_1873 : decode cX7_init 1873 = .ok (.sipush (-11192), 3) := by decide +kernel
theorem dX7_init_1876 : decode cX7_init 1876 = .ok (.iastore, 1) := by decide +kernel
theorem dX7_init_1877 : decode cX7_init 1877 = .ok (.dup, 1) := by decide +kernel
theorem dX7_init_1878 : decode cX7_init 1878 = .ok (.bipush 12, 2) := by decide +kernel
theorem dX7_init_1880 : decode cX7_init 1880 = .ok (.sipush (-10232), 3) := by decide +kernel
theorem dX7_init_1883 : decode cX7_init 1883 = .ok (.iastore, 1) := by decide +kernel
theorem dX7_init_1884 : decode cX7_init 1884 = .ok (.dup, 1) := by decide +kernel
theorem dX7_init_1885 : decode cX7_init 1885 = .ok (.bipush 13, 2) := by decide +kernel
theorem dX7_init_1887 : decode cX7_init 1887 = .ok (.sipush (-9360), 3) := by decide +kernel
theorem dX7_init_1890 : decode cX7_init 1890 = .ok (.iastore, 1) := by decide +kernel
theorem dX7_init_1891 : decode cX7_init 1891 = .ok (.dup, 1) := by decide +kernel
theorem dX7_init_1892 : decode cX7_init 1892 = .ok (.bipush 14, 2) := by decide +kernel
theorem dX7_init_1894 : decode cX7_init 1894 = .ok (.sipush (-8576), 3) := by decide +kernel
theorem dX7_init_1897 : decode cX7_init 1897 = .ok (.iastore, 1) := by decide +kernel
theorem dX7_init_1898 : decode cX7_init 1898 = .ok (.dup, 1) := by decide +kernel
theorem dX7_init_1899 : decode cX7_init 1899 = .ok (.bipush 15, 2) := by decide +kernel
theorem dX7_init_1901 : decode cX7_init 1901 = .ok (.sipush (-7856), 3) := by decide +kernel
theorem dX7_init_1904 : decode cX7_init 1904 = .ok (.iastore, 1) := by decide +kernel
theorem dX7_init_1905 : decode cX7_init 1905 = .ok (.dup, 1) := by decide +kernel
theorem dX7_init_1906 : decode cX7_init 1906 = .ok (.bipush 16, 2) := by decide +kernel
theorem dX7_init_1908 : decode cX7_init 1908 = .ok (.sipush (-7192), 3) := by decide +kernel
theorem dX7_init_1911 : decode cX7_init 1911 = .ok (.iastore, 1) := by decide +kernel
theorem dX7_init_1912 : decode cX7_init 1912 = .ok (.dup, 1) := by decide +kernel
theorem dX7_init_1913 : decode cX7_init 1913 = .ok (.bipush 17, 2) := by decide +kernel
theorem dX7_init_1915 : decode cX7_init 1915 = .ok (.sipush (-6576), 3) := by decide +kernel
theorem dX7_init_1918 : decode cX7_init 1918 = .ok (.iastore, 1) := by decide +kernel
theorem dX7_init_1919 : decode cX7_init 1919 = .ok (.dup, 1) := by decide +kernel
theorem dX7_init_1920 : decode cX7_init 1920 = .ok (.bipush 18, 2) := by decide +kernel
theorem dX7_init_1922 : decode cX7_init 1922 = .ok (.sipush (-6000), 3) := by decide +kernel
theorem dX7_init_1925 : decode cX7_init 1925 = .ok (.iastore, 1) := by decide +kernel
theorem dX7_init_1926 : decode cX7_init 1926 = .ok (.dup, 1) := by decide +kernel
theorem dX7_init_1927 : decode cX7_init 1927 = .ok (.bipush 19, 2) := by decide +kernel
theorem dX7_init_1929 : decode cX7_init 1929 = .ok (.sipush (-5456), 3) := by decide +kernel
theorem dX7_init_1932 : decode cX7_init 1932 = .ok (.iastore, 1) := by decide +kernel
theorem dX7_init_1933 : decode cX7_init 1933 = .ok (.dup, 1) := by decide +kernel
theorem dX7_init_1934 : decode cX7_init 1934 = .ok (.bipush 20, 2) := by decide +kernel
theorem dX7_init_1936 : decode cX7_init 1936 = .ok (.sipush (-4944), 3) := by decide +kernel
theorem dX7_init_1939 : decode cX7_init 1939 = .ok (.iastore, 1) := by decide +kernel
theorem dX7_init_1940 : decode cX7_init 1940 = .ok (.dup, 1) := by decide +kernel
theorem dX7_init_1941 : decode cX7_init 1941 = .ok (.bipush 21, 2) := by decide +kernel
theorem dX7_init_1943 : decode cX7_init 1943 = .ok (.sipush (-4464), 3) := by decide +kernel
theorem dX7_init_1946 : decode cX7_init 1946 = .ok (.iastore, 1) := by decide +kernel
theorem dX7_init_1947 : decode cX7_init 1947 = .ok (.dup, 1) := by decide +kernel
theorem dX7_init_1948 : decode cX7_init 1948 = .ok (.bipush 22, 2) := by decide +kernel
theorem dX7_init_1950 : decode cX7_init 1950 = .ok (.sipush (-4008), 3) := by decide +kernel
theorem dX7_init_1953 : decode cX7_init 1953 = .ok (.iastore, 1) := by decide +kernel
theorem dX7_init_1954 : decode cX7_init 1954 = .ok (.dup, 1) := by decide +kernel
theorem dX7_init_1955 : decode cX7_init 1955 = .ok (.bipush 23, 2) := by decide +kernel
theorem dX7_init_1957 : decode cX7_init 1957 = .ok (.sipush (-3576), 3) := by decide +kernel
theorem dX7_init_1960 : decode cX7_init 1960 = .ok (.iastore, 1) := by decide +kernel
theorem dX7_init_1961 : decode cX7_init 1961 = .ok (.dup, 1) := by decide +kernel
theorem dX7_init_1962 : decode cX7_init 1962 = .ok (.bipush 24, 2) := by decide +kernel
theorem dX7_init_1964 : decode cX7_init 1964 = .ok (.sipush (-3168), 3) := by decide +kernel
theorem dX7_init_1967 : decode cX7_init 1967 = .ok (.iastore, 1) := by decide +kernel
theorem dX7_init_1968 : decode cX7_init 1968 = .ok (.dup, 1) := by decide +kernel
theorem dX7_init_1969 : decode cX7_init 1969 = .ok (.bipush 25, 2) := by decide +kernel
theorem dX7_init_1971 : decode cX7_init 1971 = .ok (.sipush (-2776), 3) := by decide +kernel
theorem dX7_init_1974 : decode cX7_init 1974 = .ok (.iastore, 1) := by decide +kernel
theorem dX7_init_1975 : decode cX7_init 1975 = .ok (.dup, 1) := by decide +kernel
theorem dX7_init_1976 : decode cX7_init 1976 = .ok (.bipush 26, 2) := by decide +kernel
theorem dX7_init_1978 : decode cX7_init 1978 = .ok (.sipush (-2400), 3) := by decide +kernel
theorem dX7_init_1981 : decode cX7_init 1981 = .ok (.iastore, 1) := by decide +kernel
theorem dX7_init_1982 : decode cX7_init 1982 = .ok (.dup, 1) := by decide +kernel
theorem dX7_init_1983 : decode cX7_init 1983 = .ok (.bipush 27, 2) := by decide +kernel
theorem dX7_init_1985 : decode cX7_init 1985 = .ok (.sipush (-2032), 3) := by decide +kernel
theorem dX7_init_1988 : decode cX7_init 1988 = .ok (.iastore, 1) := by decide +kernel
theorem dX7_init_1989 : decode cX7_init 1989 = .ok (.dup, 1) := by decide +kernel
theorem dX7_init_1990 : decode cX7_init 1990 = .ok (.bipush 28, 2) := by decide +kernel
theorem dX7_init_1992 : decode cX7_init 1992 = .ok (.sipush (-1688), 3) := by decide +kernel
theorem dX7_init_1995 : decode cX7_init 1995 = .ok (.iastore, 1) := by decide +kernel
theorem dX7_init_1996 : decode cX7_init 1996 = .ok (.dup, 1) := by decide +kernel
theorem dX7_init_1997 : decode cX7_init 1997 = .ok (.bipush 29, 2) := by decide +kernel
theorem dX7_init_1999 : decode cX7_init 1999 = .ok (.sipush (-1360), 3) := by decide +kernel
theorem dX7_init_2002 : decode cX7_init 2002 = .ok (.iastore, 1) := by decide +kernel
theorem dX7_init_2003 : decode cX7_init 2003 = .ok (.dup, 1) := by decide +kernel
theorem dX7_init_2004 : decode cX7_init 2004 = .ok (.bipush 30, 2) := by decide +kernel
theorem dX7_init_2006 : decode cX7_init 2006 = .ok (.sipush (-1040), 3) := by decide +kernel
theorem dX7_init_2009 : decode cX7_init 2009 = .ok (.iastore, 1) := by decide +kernel
theorem dX7_init_2010 : decode cX7_init 2010 = .ok (.dup, 1) := by decide +kernel
theorem dX7_init_2011 : decode cX7_init 2011 = .ok (.bipush 31, 2) := by decide +kernel
theorem dX7_init_2013 : decode cX7_init 2013 = .ok (.sipush (-728), 3) := by decide +kernel
theorem dX7_init_2016 : decode cX7_init 2016 = .ok (.iastore, 1) := by decide +kernel
theorem dX7_init_2017 : decode cX7_init 2017 = .ok (.putfield 99, 3) := by decide +kernel
theorem dX7_init_2020 : decode cX7_init 2020 = .ok (.aload_n 0, 1) := by decide +kernel
theorem dX7_init_2021 : decode cX7_init 2021 = .ok (.sipush 1000, 3) := by decide +kernel
theorem dX7_init_2024 : decode cX7_init 2024 = .ok (.newarray .int, 2) := by decide +kernel
theorem dX7_init_2026 : decode cX7_init 2026 = .ok (.putfield 102, 3) := by decide +kernel
theorem dX7_init_2029 : decode cX7_init 2029 = .ok (.aload_n 0, 1) := by decide +kernel
theorem dX7_init_2030 : decode cX7_init 2030 = .ok (.sipush 2000, 3) := by decide +kernel
theorem dX7_init_2033 : decode cX7_init 2033 = .ok (.newarray .int, 2) := by decide +kernel
theorem dX7_init_2035 : decode cX7_init 2035 = .ok (.putfield 105, 3) := by decide +kernel
theorem dX7_init_2038 : decode cX7_init 2038 = .ok (.aload_n 0, 1) := by decide +kernel
theorem dX7_init_2039 : decode cX7_init 2039 = .ok (.sipush 512, 3) := by decide +kernel
theorem dX7_init_2042 : decode cX7_init 2042 = .ok (.newarray .int, 2) := by decide +kernel
theorem dX7_init_2044 : decode cX7_init 2044 = .ok (.putfield 108, 3) := by decide +kernel
theorem dX7_init_2047 : decode cX7_init 2047 = .ok (.aload_n 0, 1) := by decide +kernel
theorem dX7_init_2048 : decode cX7_init 2048 = .ok (.sipush 512, 3) := by decide +kernel
theorem dX7_init_2051 : decode cX7_init 2051 = .ok (.newarray .int, 2) := by decide +kernel
theorem dX7_init_2053 : decode cX7_init 2053 = .ok (.putfield 111, 3) := by decide +kernel
theorem dX7_init_2056 : decode cX7_init 2056 = .ok (.return_, 1) := by decide +kernel
theorem dX7_isLine_0 : decode cX7_isLine 0 = .ok (.iload_n 1, 1) := by decide +kernel
theorem dX7_isLine_1 : decode cX7_isLine 1 = .ok (.ifCond .lt 12, 3) := by decide +kernel
theorem dX7_isLine_4 : decode cX7_isLine 4 = .ok (.iload_n 1, 1) := by decide +kernel
theorem dX7_isLine_5 : decode cX7_isLine 5 = .ok (.iconst 4, 1) := by decide +kernel
theorem dX7_isLine_6 : decode cX7_isLine 6 = .ok (.if_icmp .ge 7, 3) := by decide +kernel
theorem dX7_isLine_9 : decode cX7_isLine 9 = .ok (.iconst 1, 1) := by decide +kernel
theorem dX7_isLine_10 : decode cX7_isLine 10 = .ok (.goto 4, 3) := by decide +kernel
theorem dX7_isLine_13 : decode cX7_isLine 13 = .ok (.iconst 0, 1) := by decide +kernel
theorem dX7_isLine_14 : decode cX7_isLine 14 = .ok (.ireturn, 1) := by decide +kernel
theorem dX7_isOpen_0 : decode cX7_isOpen 0 = .ok (.aload_n 0, 1) := by decide +kernel
theorem dX7_isOpen_1 : decode cX7_isOpen 1 = .ok (.iload_n 1, 1) := by decide +kernel
theorem dX7_isOpen_2 : decode cX7_isOpen 2 = .ok (.invokevirtual 118, 3) := by decide +kernel
theorem dX7_isOpen_5 : decode cX7_isOpen 5 = .ok (.ifCond .eq 18, 3) := by decide +kernel
theorem dX7_isOpen_8 : decode cX7_isOpen 8 = .ok (.aload_n 0, 1) := by decide +kernel
theorem dX7_isOpen_9 : decode cX7_isOpen 9 = .ok (.getfield 10, 3) := by decide +kernel
theorem dX7_isOpen_12 : decode cX7_isOpen 12 = .ok (.iload_n 1, 1) := by decide +kernel
theorem dX7_isOpen_13 : decode cX7_isOpen 13 = .ok (.iaload, 1) := by decide +kernel
theorem dX7_isOpen_14 : decode cX7_isOpen 14 = .ok (.ldc 9, 2) := by decide +kernel
theorem dX7_isOpen_16 : decode cX7_isOpen 16 = .ok (.if_icmp .eq 7, 3) := by decide +kernel
theorem dX7_isOpen_19 : decode cX7_isOpen 19 = .ok (.iconst 1, 1) := by decide +kernel
theorem dX7_isOpen_20 : decode cX7_isOpen 20 = .ok (.goto 4, 3) := by decide +kernel
theorem dX7_isOpen_23 : decode cX7_isOpen 23 = .ok (.iconst 0, 1) := by decide +kernel
theorem dX7_isOpen_24 : decode cX7_isOpen 24 = .ok (.ireturn, 1) := by decide +kernel
theorem dX7_isPaired_0 : decode cX7_isPaired 0 = .ok (.aload_n 0, 1) := by decide +kernel
theorem dX7_isPaired_1 : decode cX7_isPaired 1 = .ok (.getfield 10, 3) := by decide +kernel
theorem dX7_isPaired_4 : decode cX7_isPaired 4 = .ok (.iload_n 1, 1) := by decide +kernel
theorem dX7_isPaired_5 : decode cX7_isPaired 5 = .ok (.iaload, 1) := by decide +kernel
theorem dX7_isPaired_6 : decode cX7_isPaired 6 = .ok (.bipush 6, 2) := by decide +kernel
theorem dX7_isPaired_8 : decode cX7_isPaired 8 = .ok (.if_icmp .lt 7, 3) := by decide +kernel
theorem dX7_isPaired_11 : decode cX7_isPaired 11 = .ok (.iconst 1, 1) := by decide +kernel
theorem dX7_isPaired_12 : decode cX7_isPaired 12 = .ok (.goto 4, 3) := by decide +kernel
theorem dX7_isPaired_15 : decode cX7_isPaired 15 = .ok (.iconst 0, 1) := by decide +kernel
theorem dX7_isPaired_16 : decode cX7_isPaired 16 = .ok (.ireturn, 1) := by decide +kernel
theorem dX7_limited_0 : decode cX7_limited 0 = .ok (.iload_n 1, 1) := by decide +kernel
theorem dX7_limited_1 : decode cX7_limited 1 = .ok (.sipush 32767, 3) := by decide +kernel
theorem dX7_limited_4 : decode cX7_limited 4 = .ok (.if_icmp .le 7, 3) := by decide +kernel
theorem dX7_limited_7 : decode cX7_limited 7 = .ok (.sipush 32767, 3) := by decide +kernel
theorem dX7_limited_10 : decode cX7_limited 10 = .ok (.ireturn, 1) := by decide +kernel
theorem dX7_limited_11 : decode cX7_limited 11 = .ok (.iload_n 1, 1) := by decide +kernel
theorem dX7_limited_12 : decode cX7_limited 12 = .ok (.sipush (-32768), 3) := by decide +kernel
theorem dX7_limited_15 : decode cX7_limited 15 = .ok (.if_icmp .ge 9, 3) := by decide +kernel
theorem dX7_limited_18 : decode cX7_limited 18 = .ok (.sipush (-32768), 3) := by decide +kernel
theorem dX7_limited_21 : decode cX7_limited 21 = .ok (.goto 4, 3) := by decide +kernel
theorem dX7_limited_24 : decode cX7_limited 24 = .ok (.iload_n 1, 1) := by decide +kernel
theorem dX7_limited_25 : decode cX7_limited 25 = .ok (.ireturn, 1) := by decide +kernel
theorem dX7_wrapped_0 : decode cX7_wrapped 0 = .ok (.iload_n 1, 1) := by decide +kernel
theorem dX7_wrapped_1 : decode cX7_wrapped 1 = .ok (.bipush 16, 2) := by decide +kernel
theorem dX7_wrapped_3 : decode cX7_wrapped 3 = .ok (.ishl, 1) := by decide +kernel
theorem dX7_wrapped_4 : decode cX7_wrapped 4 = .ok (.bipush 16, 2) := by decide +kernel
theorem dX7_wrapped_6 : decode cX7_wrapped 6 = .ok (.ishr, 1) := by decide +kernel
theorem dX7_wrapped_7 : decode cX7_wrapped 7 = .ok (.ireturn, 1) := by decide +kernel
theorem dX7_cut_0 : decode cX7_cut 0 = .ok (.iload_n 1, 1) := by decide +kernel
theorem dX7_cut_1 : decode cX7_cut 1 = .ok (.iload_n 3, 1) := by decide +kernel
theorem dX7_cut_2 : decode cX7_cut 2 = .ok (.if_icmp .le 5, 3) := by decide +kernel
theorem dX7_cut_5 : decode cX7_cut 5 = .ok (.iload_n 3, 1) := by decide +kernel
theorem dX7_cut_6 : decode cX7_cut 6 = .ok (.ireturn, 1) := by decide +kernel
theorem dX7_cut_7 : decode cX7_cut 7 = .ok (.iload_n 1, 1) := by decide +kernel
theorem dX7_cut_8 : decode cX7_cut 8 = .ok (.iload_n 2, 1) := by decide +kernel
theorem dX7_cut_9 : decode cX7_cut 9 = .ok (.if_icmp .ge 7, 3) := by decide +kernel
theorem dX7_cut_12 : decode cX7_cut 12 = .ok (.iload_n 2, 1) := by decide +kernel
theorem dX7_cut_13 : decode cX7_cut 13 = .ok (.goto 4, 3) := by decide +kernel
theorem dX7_cut_16 : decode cX7_cut 16 = .ok (.iload_n 1, 1) := by decide +kernel
theorem dX7_cut_17 : decode cX7_cut 17 = .ok (.ireturn, 1) := by decide +kernel
theorem dX7_amount_0 : decode cX7_amount 0 = .ok (.iload_n 1, 1) := by decide +kernel
theorem dX7_amount_1 : decode cX7_amount 1 = .ok (.ifCond .ge 8, 3) := by decide +kernel
theorem dX7_amount_4 : decode cX7_amount 4 = .ok (.iload_n 1, 1) := by decide +kernel
theorem dX7_amount_5 : decode cX7_amount 5 = .ok (.ineg, 1) := by decide +kernel
theorem dX7_amount_6 : decode cX7_amount 6 = .ok (.goto 4, 3) := by decide +kernel
theorem dX7_amount_9 : decode cX7_amount 9 = .ok (.iload_n 1, 1) := by decide +kernel
theorem dX7_amount_10 : decode cX7_amount 10 = .ok (.ireturn, 1) := by decide +kernel
theorem dX7_sign_0 : decode cX7_sign 0 = .ok (.iload_n 1, 1) := by decide +kernel
theorem dX7_sign_1 : decode cX7_sign 1 = .ok (.ifCond .ge 7, 3) := by decide +kernel
theorem dX7_sign_4 : decode cX7_sign 4 = .ok (.iconst 1, 1) := by decide +kernel
theorem dX7_sign_5 : decode cX7_sign 5 = .ok (.goto 4, 3) := by decide +kernel
theorem dX7_sign_8 : decode cX7_sign 8 = .ok (.iconst 0, 1) := by decide +kernel
theorem dX7_sign_9 : decode cX7_sign 9 = .ok (.ireturn, 1) := by decide +kernel
theorem dX7_size_0 : decode cX7_size 0 = .ok (.iconst 0, 1) := by decide +kernel
theorem dX7_size_1 : decode cX7_size 1 = .ok (.istore_n 2, 1) := by decide +kernel
theorem dX7_size_2 : decode cX7_size 2 = .ok (.iload_n 2, 1) := by decide +kernel
theorem dX7_size_3 : decode cX7_size 3 = .ok (.bipush 15, 2) := by decide +kernel
theorem dX7_size_5 : decode cX7_size 5 = .ok (.if_icmp .ge 17, 3) := by decide +kernel
theorem dX7_size_8 : decode cX7_size 8 = .ok (.iload_n 1, 1) := by decide +kernel
theorem dX7_size_9 : decode cX7_size 9 = .ok (.iconst 1, 1) := by decide +kernel
theorem dX7_size_10 : decode cX7_size 10 = .ok (.iload_n 2, 1) := by decide +kernel
theorem dX7_size_11 : decode cX7_size 11 = .ok (.ishl, 1) := by decide +kernel
theorem dX7_size_12 : decode cX7_size 12 = .ok (.if_icmp .lt 10, 3) := by decide +kernel
theorem dX7_size_15 : decode cX7_size 15 = .ok (.iload_n 2, 1) := by decide +kernel
theorem dX7_size_16 : decode cX7_size 16 = .ok (.iconst 1, 1) := by decide +kernel
theorem dX7_size_17 : decode cX7_size 17 = .ok (.iadd, 1) := by decide +kernel
theorem dX7_size_18 : decode cX7_size 18 = .ok (.istore_n 2, 1) := by decide +kernel
theorem dX7_size_19 : decode cX7_size 19 = .ok (.goto (-17), 3) := by decide +kernel
theorem dX7_size_22 : decode cX7_size 22 = .ok (.iload_n 2, 1) := by decide +kernel
theorem dX7_size_23 : decode cX7_size 23 = .ok (.ireturn, 1) := by decide +kernel
theorem dX7_open_0 : decode cX7_open 0 = .ok (.aload_n 0, 1) := by decide +kernel
theorem dX7_open_1 : decode cX7_open 1 = .ok (.iconst 0, 1) := by decide +kernel
theorem dX7_open_2 : decode cX7_open 2 = .ok (.putfield 114, 3) := by decide +kernel
theorem dX7_open_5 : decode cX7_open 5 = .ok (.aload_n 0, 1) := by decide +kernel
theorem dX7_open_6 : decode cX7_open 6 = .ok (.iload_n 1, 1) := by decide +kernel
theorem dX7_open_7 : decode cX7_open 7 = .ok (.invokevirtual 118, 3) := by decide +kernel
theorem dX7_open_10 : decode cX7_open 10 = .ok (.ifCond .eq 13, 3) := by decide +kernel
theorem dX7_open_13 : decode cX7_open 13 = .ok (.iload_n 2, 1) := by decide +kernel
theorem dX7_open_14 : decode cX7_open 14 = .ok (.ifCond .lt 9, 3) := by decide +kernel
theorem dX7_open_17 : decode cX7_open 17 = .ok (.iload_n 2, 1) := by decide +kernel
theorem dX7_open_18 : decode cX7_open 18 = .ok (.bipush 8, 2) := by decide +kernel
theorem dX7_open_20 : decode cX7_open 20 = .ok (.if_icmp .le 5, 3) := by decide +kernel
theorem dX7_open_23 : decode cX7_open 23 = .ok (.iconst 0, 1) := by decide +kernel
theorem dX7_open_24 : decode cX7_open 24 = .ok (.ireturn, 1) := by decide +kernel
theorem dX7_open_25 : decode cX7_open 25 = .ok (.aload_n 0, 1) := by decide +kernel
theorem dX7_open_26 : decode cX7_open 26 = .ok (.getfield 10, 3) := by decide +kernel
theorem dX7_open_29 : decode cX7_open 29 = .ok (.iload_n 1, 1) := by decide +kernel
theorem dX7_open_30 : decode cX7_open 30 = .ok (.iload_n 2, 1) := by decide +kernel
theorem dX7_open_31 : decode cX7_open 31 = .ok (.iastore, 1) := by decide +kernel
theorem dX7_open_32 : decode cX7_open 32 = .ok (.aload_n 0, 1) := by decide +kernel
theorem dX7_open_33 : decode cX7_open 33 = .ok (.getfield 14, 3) := by decide +kernel
theorem dX7_open_36 : decode cX7_open 36 = .ok (.iload_n 1, 1) := by decide +kernel
theorem dX7_open_37 : decode cX7_open 37 = .ok (.iconst 0, 1) := by decide +kernel
theorem dX7_open_38 : decode cX7_open 38 = .ok (.iastore, 1) := by decide +kernel
theorem dX7_open_39 : decode cX7_open 39 = .ok (.iconst 2, 1) := by decide +kernel
theorem dX7_open_40 : decode cX7_open 40 = .ok (.iload_n 1, 1) := by decide +kernel
theorem dX7_open_41 : decode cX7_open 41 = .ok (.imul, 1) := by decide +kernel
theorem dX7_open_42 : decode cX7_open 42 = .ok (.istore_n 3, 1) := by decide +kernel
theorem dX7_open_43 : decode cX7_open 43 = .ok (.iload_n 3, 1) := by decide +kernel
theorem dX7_open_44 : decode cX7_open 44 = .ok (.iconst 2, 1) := by decide +kernel
theorem dX7_open_45 : decode cX7_open 45 = .ok (.iload_n 1, 1) := by decide +kernel
theorem dX7_open_46 : decode cX7_open 46 = .ok (.imul, 1) := by decide +kernel
theorem dX7_open_47 : decode cX7_open 47 = .ok (.iconst 2, 1) := by decide +kernel
theorem dX7_open_48 : decode cX7_open 48 = .ok (.iadd, 1) := by decide +kernel
theorem dX7_open_49 : decode cX7_open 49 = .ok (.if_icmp .ge 163, 3) := by decide +kernel
theorem dX7_open_52 : decode cX7_open 52 = .ok (.iconst 0, 1) := by decide +kernel
theorem dX7_open_53 : decode cX7_open 53 = .ok (.istore 4, 2) := by decide +kernel
theorem dX7_open_55 : decode cX7_open 55 = .ok (.iload 4, 2) := by decide +kernel
theorem dX7_open_57 : decode cX7_open 57 = .ok (.bipush 24, 2) := by decide +kernel
theorem dX7_open_59 : decode cX7_open 59 = .ok (.if_icmp .ge 35, 3) := by decide +kernel
theorem dX7_open_62 : decode cX7_open 62 = .ok (.aload_n 0, 1) := by decide +kernel
theorem dX7_open_63 : decode cX7_open 63 = .ok (.getfield 17, 3) := by decide +kernel
theorem dX7_open_66 : decode cX7_open 66 = .ok (.bipush 24, 2) := by decide +kernel
theorem dX7_open_68 : decode cX7_open 68 = .ok (.iload_n 3, 1) := by decide +kernel
theorem dX7_open_69 : decode cX7_open 69 = .ok (.imul, 1) := by decide +kernel
theorem dX7_open_70 : decode cX7_open 70 = .ok (.iload 4, 2) := by decide +kernel
theorem dX7_open_72 : decode cX7_open 72 = .ok (.iadd, 1) := by decide +kernel
theorem dX7_open_73 : decode cX7_open 73 = .ok (.iconst 0, 1) := by decide +kernel
theorem dX7_open_74 : decode cX7_open 74 = .ok (.iastore, 1) := by decide +kernel
theorem dX7_open_75 : decode cX7_open 75 = .ok (.aload_n 0, 1) := by decide +kernel
theorem dX7_open_76 : decode cX7_open 76 = .ok (.getfield 72, 3) := by decide +kernel
theorem dX7_open_79 : decode cX7_open 79 = .ok (.bipush 24, 2) := by decide +kernel
theorem dX7_open_81 : decode cX7_open 81 = .ok (.iload_n 3, 1) := by decide +kernel
theorem dX7_open_82 : decode cX7_open 82 = .ok (.imul, 1) := by decide +kernel
theorem dX7_open_83 : decode cX7_open 83 = .ok (.iload 4, 2) := by decide +kernel
theorem dX7_open_85 : decode cX7_open 85 = .ok (.iadd, 1) := by decide +kernel
theorem dX7_open_86 : decode cX7_open 86 = .ok (.iconst 0, 1) := by decide +kernel
theorem dX7_open_87 : decode cX7_open 87 = .ok (.iastore, 1) := by decide +kernel
theorem dX7_open_88 : decode cX7_open 88 = .ok (.iinc 4 1, 3) := by decide +kernel
theorem dX7_open_91 : decode cX7_open 91 = .ok (.goto (-36), 3) := by decide +kernel
theorem dX7_open_94 : decode cX7_open 94 = .ok (.aload_n 0, 1) := by decide +kernel
theorem dX7_open_95 : decode cX7_open 95 = .ok (.getfield 17, 3) := by decide +kernel
theorem dX7_open_98 : decode cX7_open 98 = .ok (.bipush 24, 2) := by decide +kernel
theorem dX7_open_100 : decode cX7_open 100 = .ok (.iload_n 3, 1) := by decide +kernel
theorem dX7_open_101 : decode cX7_open 101 = .ok (.imul, 1) := by decide +kernel
theorem dX7_open_102 : decode cX7_open 102 = .ok (.ldc 122, 2) := by decide +kernel
theorem dX7_open_104 : decode cX7_open 104 = .ok (.iastore, 1) := by decide +kernel
theorem dX7_open_105 : decode cX7_open 105 = .ok (.aload_n 0, 1) := by decide +kernel
theorem dX7_open_106 : decode cX7_open 106 = .ok (.getfield 17, 3) := by decide +kernel
theorem dX7_open_109 : decode cX7_open 109 = .ok (.bipush 24, 2) := by decide +kernel
theorem dX7_open_111 : decode cX7_open 111 = .ok (.iload_n 3, 1) := by decide +kernel
theorem dX7_open_112 : decode cX7_open 112 = .ok (.imul, 1) := by decide +kernel
theorem dX7_open_113 : decode cX7_open 113 = .ok (.iconst 1, 1) := by decide +kernel
theorem dX7_open_114 : decode cX7_open 114 = .ok (.iadd, 1) := by decide +kernel
theorem dX7_open_115 : decode cX7_open 115 = .ok (.sipush 544, 3) := by decide +kernel
theorem dX7_open_118 : decode cX7_open 118 = .ok (.iastore, 1) := by decide +kernel
theorem dX7_open_119 : decode cX7_open 119 = .ok (.bipush 14, 2) := by decide +kernel
theorem dX7_open_121 : decode cX7_open 121 = .ok (.istore 4, 2) := by decide +kernel
theorem dX7_open_123 : decode cX7_open 123 = .ok (.iload 4, 2) := by decide +kernel
theorem dX7_open_125 : decode cX7_open 125 = .ok (.bipush 22, 2) := by decide +kernel
theorem dX7_open_127 : decode cX7_open 127 = .ok (.if_icmp .ge 23, 3) := by decide +kernel
theorem dX7_open_130 : decode cX7_open 130 = .ok (.aload_n 0, 1) := by decide +kernel
theorem dX7_open_131 : decode cX7_open 131 = .ok (.getfield 17, 3) := by decide +kernel
theorem dX7_open_134 : decode cX7_open 134 = .ok (.bipush 24, 2) := by decide +kernel
theorem dX7_open_136 : decode cX7_open 136 = .ok (.iload_n 3, 1) := by decide +kernel
theorem dX7_open_137 : decode cX7_open 137 = .ok (.imul, 1) := by decide +kernel
theorem dX7_open_138 : decode cX7_open 138 = .ok (.iload 4, 2) := by decide +kernel
theorem dX7_open_140 : decode cX7_open 140 = .ok (.iadd, 1) := by decide +kernel
theorem dX7_open_141 : decode cX7_open 141 = .ok (.bipush 32, 2) := by decide +kernel
theorem dX7_open_143 : decode cX7_open 143 = .ok (.iastore, 1) := by decide +kernel
theorem dX7_open_144 : decode cX7_open 144 = .ok (.iinc 4 1, 3) := by decide +kernel
theorem dX7_open_147 : decode cX7_open 147 = .ok (.goto (-24), 3) := by decide +kernel
theorem dX7_open_150 : decode cX7_open 150 = .ok (.iconst 0, 1) := by decide +kernel
theorem dX7_open_151 : decode cX7_open 151 = .ok (.istore 4, 2) := by decide +kernel
theorem dX7_open_153 : decode cX7_open 153 = .ok (.iload 4, 2) := by decide +kernel
theorem dX7_open_155 : decode cX7_open 155 = .ok (.bipush 46, 2) := by decide +kernel
theorem dX7_open_157 : decode cX7_open 157 = .ok (.if_icmp .ge 22, 3) := by decide +kernel
theorem dX7_open_160 : decode cX7_open 160 = .ok (.aload_n 0, 1) := by decide +kernel
theorem dX7_open_161 : decode cX7_open 161 = .ok (.getfield 69, 3) := by decide +kernel
theorem dX7_open_164 : decode cX7_open 164 = .ok (.bipush 46, 2) := by decide +kernel
theorem dX7_open_166 : decode cX7_open 166 = .ok (.iload_n 3, 1) := by decide +kernel
theorem dX7_open_167 : decode cX7_open 167 = .ok (.imul, 1) := by decide +kernel
theorem dX7_open_168 : decode cX7_open 168 = .ok (.iload 4, 2) := by decide +kernel
theorem dX7_open_170 : decode cX7_open 170 = .ok (.iadd, 1) := by decide +kernel
theorem dX7_open_171 : decode cX7_open 171 = .ok (.iconst 0, 1) := by decide +kernel
theorem dX7_open_172 : decode cX7_open 172 = .ok (.iastore, 1) := by decide +kernel
theorem dX7_open_173 : decode cX7_open 173 = .ok (.iinc 4 1, 3) := by decide +kernel
theorem dX7_open_176 : decode cX7_open 176 = .ok (.goto (-23), 3) := by decide +kernel
theorem dX7_open_179 : decode cX7_open 179 = .ok (.aload_n 0, 1) := by decide +kernel
theorem dX7_open_180 : decode cX7_open 180 = .ok (.getfield 69, 3) := by decide +kernel
theorem dX7_open_183 : decode cX7_open 183 = .ok (.bipush 46, 2) := by decide +kernel
theorem dX7_open_185 : decode cX7_open 185 = .ok (.iload_n 3, 1) := by decide +kernel
theorem dX7_open_186 : decode cX7_open 186 = .ok (.imul, 1) := by decide +kernel
theorem dX7_open_187 : decode cX7_open 187 = .ok (.iconst 1, 1) := by decide +kernel
theorem dX7_open_188 : decode cX7_open 188 = .ok (.iadd, 1) := by decide +kernel
theorem dX7_open_189 : decode cX7_open 189 = .ok (.bipush 32, 2) := by decide +kernel
theorem dX7_open_191 : decode cX7_open 191 = .ok (.iastore, 1) := by decide +kernel
theorem dX7_open_192 : decode cX7_open 192 = .ok (.aload_n 0, 1) := by decide +kernel
theorem dX7_open_193 : decode cX7_open 193 = .ok (.getfield 69, 3) := by decide +kernel
theorem dX7_open_196 : decode cX7_open 196 = .ok (.bipush 46, 2) := by decide +kernel
theorem dX7_open_198 : decode cX7_open 198 = .ok (.iload_n 3, 1) := by decide +kernel
theorem dX7_open_199 : decode cX7_open 199 = .ok (.imul, 1) := by decide +kernel
theorem dX7_open_200 : decode cX7_open 200 = .ok (.bipush 24, 2) := by decide +kernel
theorem dX7_open_202 : decode cX7_open 202 = .ok (.iadd, 1) := by decide +kernel
theorem dX7_open_203 : decode cX7_open 203 = .ok (.bipush 8, 2) := by decide +kernel
theorem dX7_open_205 : decode cX7_open 205 = .ok (.iastore, 1) := by decide +kernel
theorem dX7_open_206 : decode cX7_open 206 = .ok (.iinc 3 1, 3) := by decide +kernel
theorem dX7_open_209 : decode cX7_open 209 = .ok (.goto (-166), 3) := by decide +kernel
theorem dX7_open_212 : decode cX7_open 212 = .ok (.iconst 1, 1) := by decide +kernel
theorem dX7_open_213 : decode cX7_open 213 = .ok (.ireturn, 1) := by decide +kernel
theorem dX7_kind_0 : decode cX7_kind 0 = .ok (.aload_n 0, 1) := by decide +kernel
theorem dX7_kind_1 : decode cX7_kind 1 = .ok (.iconst 0, 1) := by decide +kernel
theorem dX7_kind_2 : decode cX7_kind 2 = .ok (.putfield 114, 3) := by decide +kernel
theorem dX7_kind_5 : decode cX7_kind 5 = .ok (.aload_n 0, 1) := by decide +kernel
theorem dX7_kind_6 : decode cX7_kind 6 = .ok (.iload_n 1, 1) := by decide +kernel
theorem dX7_kind_7 : decode cX7_kind 7 = .ok (.invokevirtual 118, 3) := by decide +kernel
theorem dX7_kind_10 : decode cX7_kind 10 = .ok (.ifCond .eq 12, 3) := by decide +kernel
theorem dX7_kind_13 : decode cX7_kind 13 = .ok (.aload_n 0, 1) := by decide +kernel
theorem dX7_kind_14 : decode cX7_kind 14 = .ok (.getfield 10, 3) := by decide +kernel
theorem dX7_kind_17 : decode cX7_kind 17 = .ok (.iload_n 1, 1) := by decide +kernel
theorem dX7_kind_18 : decode cX7_kind 18 = .ok (.iaload, 1) := by decide +kernel
theorem dX7_kind_19 : decode cX7_kind 19 = .ok (.goto 5, 3) := by decide +kernel
theorem dX7_kind_22 : decode cX7_kind 22 = .ok (.ldc 9, 2) := by decide +kernel
theorem dX7_kind_24 : decode cX7_kind 24 = .ok (.ireturn, 1) := by decide +kernel
theorem dX7_muSays_0 : decode cX7_muSays 0 = .ok (.iload_n 1, 1) := by decide +kernel
theorem dX7_muSays_1 : decode cX7_muSays 1 = .ok (.iconst 2, 1) := by decide +kernel
theorem dX7_muSays_2 : decode cX7_muSays 2 = .ok (.ishr, 1) := by decide +kernel
theorem dX7_muSays_3 : decode cX7_muSays 3 = .ok (.istore_n 2, 1) := by decide +kernel
theorem dX7_muSays_4 : decode cX7_muSays 4 = .ok (.aload_n 0, 1) := by decide +kernel
theorem dX7_muSays_5 : decode cX7_muSays 5 = .ok (.iload_n 2, 1) := by decide +kernel
theorem dX7_muSays_6 : decode cX7_muSays 6 = .ok (.invokevirtual 123, 3) := by decide +kernel
theorem dX7_muSays_9 : decode cX7_muSays 9 = .ok (.istore_n 3, 1) := by decide +kernel
theorem dX7_muSays_10 : decode cX7_muSays 10 = .ok (.aload_n 0, 1) := by decide +kernel
theorem dX7_muSays_11 : decode cX7_muSays 11 = .ok (.iload_n 2, 1) := by decide +kernel
theorem dX7_muSays_12 : decode cX7_muSays 12 = .ok (.invokevirtual 127, 3) := by decide +kernel
theorem dX7_muSays_15 : decode cX7_muSays 15 = .ok (.istore_n 2, 1) := by decide +kernel
theorem dX7_muSays_16 : decode cX7_muSays 16 = .ok (.iload_n 2, 1) := by decide +kernel
theorem dX7_muSays_17 : decode cX7_muSays 17 = .ok (.sipush 8158, 3) := by decide +kernel
theorem dX7_muSays_20 : decode cX7_muSays 20 = .ok (.if_icmp .le 7, 3) := by decide +kernel
theorem dX7_muSays_23 : decode cX7_muSays 23 = .ok (.sipush 8158, 3) := by decide +kernel
theorem dX7_muSays_26 : decode cX7_muSays 26 = .ok (.istore_n 2, 1) := by decide +kernel
theorem dX7_muSays_27 : decode cX7_muSays 27 = .ok (.iload_n 2, 1) := by decide +kernel
theorem dX7_muSays_28 : decode cX7_muSays 28 = .ok (.bipush 33, 2) := by decide +kernel
theorem dX7_muSays_30 : decode cX7_muSays 30 = .ok (.iadd, 1) := by decide +kernel
theorem dX7_muSays_31 : decode cX7_muSays 31 = .ok (.istore_n 2, 1) := by decide +kernel
theorem dX7_muSays_32 : decode cX7_muSays 32 = .ok (.iconst 0, 1) := by decide +kernel
theorem dX7_muSays_33 : decode cX7_muSays 33 = .ok (.istore 4, 2) := by decide +kernel
theorem dX7_muSays_35 : decode cX7_muSays 35 = .ok (.iload_n 2, 1) := by decide +kernel
theorem dX7_muSays_36 : decode cX7_muSays 36 = .ok (.bipush 64, 2) := by decide +kernel
theorem dX7_muSays_38 : decode cX7_muSays 38 = .ok (.iload 4, 2) := by decide +kernel
theorem dX7_muSays_40 : decode cX7_muSays 40 = .ok (.ishl, 1) := by decide +kernel
theorem dX7_muSays_41 : decode cX7_muSays 41 = .ok (.if_icmp .lt 12, 3) := by decide +kernel
theorem dX7_muSays_44 : decode cX7_muSays 44 = .ok (.iload 4, 2) := by decide +kernel
theorem dX7_muSays_46 : decode cX7_muSays 46 = .ok (.iconst 1, 1) := by decide +kernel
theorem dX7_muSays_47 : decode cX7_muSays 47 = .ok (.iadd, 1) := by decide +kernel
theorem dX7_muSays_48 : decode cX7_muSays 48 = .ok (.istore 4, 2) := by decide +kernel
theorem dX7_muSays_50 : decode cX7_muSays 50 = .ok (.goto (-15), 3) := by decide +kernel
theorem dX7_muSays_53 : decode cX7_muSays 53 = .ok (.iload_n 3, 1) := by decide +kernel
theorem dX7_muSays_54 : decode cX7_muSays 54 = .ok (.iconst 1, 1) := by decide +kernel
theorem dX7_muSays_55 : decode cX7_muSays 55 = .ok (.if_icmp .ne 8, 3) := by decide +kernel
theorem dX7_muSays_58 : decode cX7_muSays 58 = .ok (.bipush 127, 2) := by decide +kernel
theorem dX7_muSays_60 : decode cX7_muSays 60 = .ok (.goto 6, 3) := by decide +kernel
theorem dX7_muSays_63 : decode cX7_muSays 63 = .ok (.sipush 255, 3) := by decide +kernel
theorem dX7_muSays_66 : decode cX7_muSays 66 = .ok (.bipush 16, 2) := by decide +kernel
theorem dX7_muSays_68 : decode cX7_muSays 68 = .ok (.iload 4, 2) := by decide +kernel
theorem dX7_muSays_70 : decode cX7_muSays 70 = .ok (.imul, 1) := by decide +kernel
theorem dX7_muSays_71 : decode cX7_muSays 71 = .ok (.iload_n 2, 1) := by decide +kernel
theorem dX7_muSays_72 : decode cX7_muSays 72 = .ok (.iload 4, 2) := by decide +kernel
theorem dX7_muSays_74 : decode cX7_muSays 74 = .ok (.iconst 1, 1) := by decide +kernel
theorem dX7_muSays_75 : decode cX7_muSays 75 = .ok (.iadd, 1) := by decide +kernel
theorem dX7_muSays_76 : decode cX7_muSays 76 = .ok (.ishr, 1) := by decide +kernel
theorem dX7_muSays_77 : decode cX7_muSays 77 = .ok (.bipush 15, 2) := by decide +kernel
theorem dX7_muSays_79 : decode cX7_muSays 79 = .ok (.iand, 1) := by decide +kernel
theorem dX7_muSays_80 : decode cX7_muSays 80 = .ok (.iadd, 1) := by decide +kernel
theorem dX7_muSays_81 : decode cX7_muSays 81 = .ok (.isub, 1) := by decide +kernel
theorem dX7_muSays_82 : decode cX7_muSays 82 = .ok (.ireturn, 1) := by decide +kernel
theorem dX7_muHears_0 : decode cX7_muHears 0 = .ok (.sipush 255, 3) := by decide +kernel
theorem dX7_muHears_3 : decode cX7_muHears 3 = .ok (.iload_n 1, 1) := by decide +kernel
theorem dX7_muHears_4 : decode cX7_muHears 4 = .ok (.isub, 1) := by decide +kernel
theorem dX7_muHears_5 : decode cX7_muHears 5 = .ok (.istore_n 2, 1) := by decide +kernel
theorem dX7_muHears_6 : decode cX7_muHears 6 = .ok (.bipush 8, 2) := by decide +kernel
theorem dX7_muHears_8 : decode cX7_muHears 8 = .ok (.iload_n 2, 1) := by decide +kernel
theorem dX7_muHears_9 : decode cX7_muHears 9 = .ok (.bipush 15, 2) := by decide +kernel
theorem dX7_muHears_11 : decode cX7_muHears 11 = .ok (.iand, 1) := by decide +kernel
theorem dX7_muHears_12 : decode cX7_muHears 12 = .ok (.imul, 1) := by decide +kernel
theorem dX7_muHears_13 : decode cX7_muHears 13 = .ok (.sipush 132, 3) := by decide +kernel
theorem dX7_muHears_16 : decode cX7_muHears 16 = .ok (.iadd, 1) := by decide +kernel
theorem dX7_muHears_17 : decode cX7_muHears 17 = .ok (.iload_n 2, 1) := by decide +kernel
theorem dX7_muHears_18 : decode cX7_muHears 18 = .ok (.iconst 4, 1) := by decide +kernel
theorem dX7_muHears_19 : decode cX7_muHears 19 = .ok (.ishr, 1) := by decide +kernel
theorem dX7_muHears_20 : decode cX7_muHears 20 = .ok (.bipush 7, 2) := by decide +kernel
theorem dX7_muHears_22 : decode cX7_muHears 22 = .ok (.iand, 1) := by decide +kernel
theorem dX7_muHears_23 : decode cX7_muHears 23 = .ok (.ishl, 1) := by decide +kernel
theorem dX7_muHears_24 : decode cX7_muHears 24 = .ok (.sipush 132, 3) := by decide +kernel
theorem dX7_muHears_27 : decode cX7_muHears 27 = .ok (.isub, 1) := by decide +kernel
theorem dX7_muHears_28 : decode cX7_muHears 28 = .ok (.istore_n 3, 1) := by decide +kernel
theorem dX7_muHears_29 : decode cX7_muHears 29 = .ok (.iload_n 2, 1) := by decide +kernel
theorem dX7_muHears_30 : decode cX7_muHears 30 = .ok (.bipush 127, 2) := by decide +kernel
theorem dX7_muHears_32 : decode cX7_muHears 32 = .ok (.if_icmp .le 8, 3) := by decide +kernel
theorem dX7_muHears_35 : decode cX7_muHears 35 = .ok (.iload_n 3, 1) := by decide +kernel
theorem dX7_muHears_36 : decode cX7_muHears 36 = .ok (.ineg, 1) := by decide +kernel
theorem dX7_muHears_37 : decode cX7_muHears 37 = .ok (.goto 4, 3) := by decide +kernel
theorem dX7_muHears_40 : decode cX7_muHears 40 = .ok (.iload_n 3, 1) := by decide +kernel
theorem dX7_muHears_41 : decode cX7_muHears 41 = .ok (.ireturn, 1) := by decide +kernel
theorem dX7_aSays_0 : decode cX7_aSays 0 = .ok (.iload_n 1, 1) := by decide +kernel
theorem dX7_aSays_1 : decode cX7_aSays 1 = .ok (.iconst 3, 1) := by decide +kernel
theorem dX7_aSays_2 : decode cX7_aSays 2 = .ok (.ishr, 1) := by decide +kernel
theorem dX7_aSays_3 : decode cX7_aSays 3 = .ok (.istore_n 2, 1) := by decide +kernel
theorem dX7_aSays_4 : decode cX7_aSays 4 = .ok (.iload_n 2, 1) := by decide +kernel
theorem dX7_aSays_5 : decode cX7_aSays 5 = .ok (.ifCond .ge 8, 3) := by decide +kernel
theorem dX7_aSays_8 : decode cX7_aSays 8 = .ok (.iload_n 2, 1) := by decide +kernel
theorem dX7_aSays_9 : decode cX7_aSays 9 = .ok (.ineg, 1) := by decide +kernel
theorem dX7_aSays_10 : decode cX7_aSays 10 = .ok (.iconst 1, 1) := by decide +kernel
theorem dX7_aSays_11 : decode cX7_aSays 11 = .ok (.isub, 1) := by decide +kernel
theorem dX7_aSays_12 : decode cX7_aSays 12 = .ok (.istore_n 2, 1) := by decide +kernel
theorem dX7_aSays_13 : decode cX7_aSays 13 = .ok (.iconst 0, 1) := by decide +kernel
theorem dX7_aSays_14 : decode cX7_aSays 14 = .ok (.istore_n 3, 1) := by decide +kernel
theorem dX7_aSays_15 : decode cX7_aSays 15 = .ok (.iload_n 2, 1) := by decide +kernel
theorem dX7_aSays_16 : decode cX7_aSays 16 = .ok (.bipush 32, 2) := by decide +kernel
theorem dX7_aSays_18 : decode cX7_aSays 18 = .ok (.iload_n 3, 1) := by decide +kernel
theorem dX7_aSays_19 : decode cX7_aSays 19 = .ok (.ishl, 1) := by decide +kernel
theorem dX7_aSays_20 : decode cX7_aSays 20 = .ok (.if_icmp .lt 10, 3) := by decide +kernel
theorem dX7_aSays_23 : decode cX7_aSays 23 = .ok (.iload_n 3, 1) := by decide +kernel
theorem dX7_aSays_24 : decode cX7_aSays 24 = .ok (.iconst 1, 1) := by decide +kernel
theorem dX7_aSays_25 : decode cX7_aSays 25 = .ok (.iadd, 1) := by decide +kernel
theorem dX7_aSays_26 : decode cX7_aSays 26 = .ok (.istore_n 3, 1) := by decide +kernel
theorem dX7_aSays_27 : decode cX7_aSays 27 = .ok (.goto (-12), 3) := by decide +kernel
theorem dX7_aSays_30 : decode cX7_aSays 30 = .ok (.iload_n 3, 1) := by decide +kernel
theorem dX7_aSays_31 : decode cX7_aSays 31 = .ok (.iconst 2, 1) := by decide +kernel
theorem dX7_aSays_32 : decode cX7_aSays 32 = .ok (.if_icmp .ge 9, 3) := by decide +kernel
theorem dX7_aSays_35 : decode cX7_aSays 35 = .ok (.iload_n 2, 1) := by decide +kernel
theorem dX7_aSays_36 : decode cX7_aSays 36 = .ok (.iconst 1, 1) := by decide +kernel
theorem dX7_aSays_37 : decode cX7_aSays 37 = .ok (.ishr, 1) := by decide +kernel
theorem dX7_aSays_38 : decode cX7_aSays 38 = .ok (.goto 6, 3) := by decide +kernel
theorem dX7_aSays_41 : decode cX7_aSays 41 = .ok (.iload_n 2, 1) := by decide +kernel
theorem dX7_aSays_42 : decode cX7_aSays 42 = .ok (.iload_n 3, 1) := by decide +kernel
theorem dX7_aSays_43 : decode cX7_aSays 43 = .ok (.ishr, 1) := by decide +kernel
theorem dX7_aSays_44 : decode cX7_aSays 44 = .ok (.istore 4, 2) := by decide +kernel
theorem dX7_aSays_46 : decode cX7_aSays 46 = .ok (.bipush 16, 2) := by decide +kernel
theorem dX7_aSays_48 : decode cX7_aSays 48 = .ok (.iload_n 3, 1) := by decide +kernel
theorem dX7_aSays_49 : decode cX7_aSays 49 = .ok (.imul, 1) := by decide +kernel
theorem dX7_aSays_50 : decode cX7_aSays 50 = .ok (.iload 4, 2) := by decide +kernel
theorem dX7_aSays_52 : decode cX7_aSays 52 = .ok (.bipush 15, 2) := by decide +kernel
theorem dX7_aSays_54 : decode cX7_aSays 54 = .ok (.iand, 1) := by decide +kernel
theorem dX7_aSays_55 : decode cX7_aSays 55 = .ok (.iadd, 1) := by decide +kernel
theorem dX7_aSays_56 : decode cX7_aSays 56 = .ok (.iload_n 1, 1) := by decide +kernel
theorem dX7_aSays_57 : decode cX7_aSays 57 = .ok (.ifCond .lt 9, 3) := by decide +kernel
theorem dX7_aSays_60 : decode cX7_aSays 60 = .ok (.sipush 213, 3) := by decide +kernel
theorem dX7_aSays_63 : decode cX7_aSays 63 = .ok (.goto 5, 3) := by decide +kernel
theorem dX7_aSays_66 : decode cX7_aSays 66 = .ok (.bipush 85, 2) := by decide +kernel
theorem dX7_aSays_68 : decode cX7_aSays 68 = .ok (.ixor, 1) := by decide +kernel
theorem dX7_aSays_69 : decode cX7_aSays 69 = .ok (.ireturn, 1) := by decide +kernel
theorem dX7_aHears_0 : decode cX7_aHears 0 = .ok (.iload_n 1, 1) := by decide +kernel
theorem dX7_aHears_1 : decode cX7_aHears 1 = .ok (.bipush 85, 2) := by decide +kernel
theorem dX7_aHears_3 : decode cX7_aHears 3 = .ok (.ixor, 1) := by decide +kernel
theorem dX7_aHears_4 : decode cX7_aHears 4 = .ok (.istore_n 2, 1) := by decide +kernel
theorem dX7_aHears_5 : decode cX7_aHears 5 = .ok (.bipush 16, 2) := by decide +kernel
theorem dX7_aHears_7 : decode cX7_aHears 7 = .ok (.iload_n 2, 1) := by decide +kernel
theorem dX7_aHears_8 : decode cX7_aHears 8 = .ok (.bipush 15, 2) := by decide +kernel
theorem dX7_aHears_10 : decode cX7_aHears 10 = .ok (.iand, 1) := by decide +kernel
theorem dX7_aHears_11 : decode cX7_aHears 11 = .ok (.imul, 1) := by decide +kernel
theorem dX7_aHears_12 : decode cX7_aHears 12 = .ok (.bipush 8, 2) := by decide +kernel
theorem dX7_aHears_14 : decode cX7_aHears 14 = .ok (.iadd, 1) := by decide +kernel
theorem dX7_aHears_15 : decode cX7_aHears 15 = .ok (.istore_n 3, 1) := by decide +kernel
theorem dX7_aHears_16 : decode cX7_aHears 16 = .ok (.iload_n 2, 1) := by decide +kernel
theorem dX7_aHears_17 : decode cX7_aHears 17 = .ok (.iconst 4, 1) := by decide +kernel
theorem dX7_aHears_18 : decode cX7_aHears 18 = .ok (.ishr, 1) := by decide +kernel
theorem dX7_aHears_19 : decode cX7_aHears 19 = .ok (.bipush 7, 2) := by decide +kernel
theorem dX7_aHears_21 : decode cX7_aHears 21 = .ok (.iand, 1) := by decide +kernel
theorem dX7_aHears_22 : decode cX7_aHears 22 = .ok (.istore 4, 2) := by decide +kernel
theorem dX7_aHears_24 : decode cX7_aHears 24 = .ok (.iload 4, 2) := by decide +kernel
theorem dX7_aHears_26 : decode cX7_aHears 26 = .ok (.ifCond .le 14, 3) := by decide +kernel
theorem dX7_aHears_29 : decode cX7_aHears 29 = .ok (.iload_n 3, 1) := by decide +kernel
theorem dX7_aHears_30 : decode cX7_aHears 30 = .ok (.sipush 256, 3) := by decide +kernel
theorem dX7_aHears_33 : decode cX7_aHears 33 = .ok (.iadd, 1) := by decide +kernel
theorem dX7_aHears_34 : decode cX7_aHears 34 = .ok (.iload 4, 2) := by decide +kernel
theorem dX7_aHears_36 : decode cX7_aHears 36 = .ok (.iconst 1, 1) := by decide +kernel
theorem dX7_aHears_37 : decode cX7_aHears 37 = .ok (.isub, 1) := by decide +kernel
theorem dX7_aHears_38 : decode cX7_aHears 38 = .ok (.ishl, 1) := by decide +kernel
theorem dX7_aHears_39 : decode cX7_aHears 39 = .ok (.istore_n 3, 1) := by decide +kernel
theorem dX7_aHears_40 : decode cX7_aHears 40 = .ok (.iload_n 2, 1) := by decide +kernel
theorem dX7_aHears_41 : decode cX7_aHears 41 = .ok (.bipush 127, 2) := by decide +kernel
theorem dX7_aHears_43 : decode cX7_aHears 43 = .ok (.if_icmp .le 7, 3) := by decide +kernel
theorem dX7_aHears_46 : decode cX7_aHears 46 = .ok (.iload_n 3, 1) := by decide +kernel
theorem dX7_aHears_47 : decode cX7_aHears 47 = .ok (.goto 5, 3) := by decide +kernel
theorem dX7_aHears_50 : decode cX7_aHears 50 = .ok (.iload_n 3, 1) := by decide +kernel
theorem dX7_aHears_51 : decode cX7_aHears 51 = .ok (.ineg, 1) := by decide +kernel
theorem dX7_aHears_52 : decode cX7_aHears 52 = .ok (.ireturn, 1) := by decide +kernel
theorem dX7_bound_0 : decode cX7_bound 0 = .ok (.iload_n 1, 1) := by decide +kernel
theorem dX7_bound_1 : decode cX7_bound 1 = .ok (.iconst 2, 1) := by decide +kernel
theorem dX7_bound_2 : decode cX7_bound 2 = .ok (.if_icmp .ne 10, 3) := by decide +kernel
theorem dX7_bound_5 : decode cX7_bound 5 = .ok (.aload_n 0, 1) := by decide +kernel
theorem dX7_bound_6 : decode cX7_bound 6 = .ok (.getfield 20, 3) := by decide +kernel
theorem dX7_bound_9 : decode cX7_bound 9 = .ok (.iload_n 2, 1) := by decide +kernel
theorem dX7_bound_10 : decode cX7_bound 10 = .ok (.iaload, 1) := by decide +kernel
theorem dX7_bound_11 : decode cX7_bound 11 = .ok (.ireturn, 1) := by decide +kernel
theorem dX7_bound_12 : decode cX7_bound 12 = .ok (.iload_n 1, 1) := by decide +kernel
theorem dX7_bound_13 : decode cX7_bound 13 = .ok (.iconst 3, 1) := by decide +kernel
theorem dX7_bound_14 : decode cX7_bound 14 = .ok (.if_icmp .ne 10, 3) := by decide +kernel
theorem dX7_bound_17 : decode cX7_bound 17 = .ok (.aload_n 0, 1) := by decide +kernel
theorem dX7_bound_18 : decode cX7_bound 18 = .ok (.getfield 23, 3) := by decide +kernel
theorem dX7_bound_21 : decode cX7_bound 21 = .ok (.iload_n 2, 1) := by decide +kernel
theorem dX7_bound_22 : decode cX7_bound 22 = .ok (.iaload, 1) := by decide +kernel
theorem dX7_bound_23 : decode cX7_bound 23 = .ok (.ireturn, 1) := by decide +kernel
theorem dX7_bound_24 : decode cX7_bound 24 = .ok (.iload_n 1, 1) := by decide +kernel
theorem dX7_bound_25 : decode cX7_bound 25 = .ok (.iconst 4, 1) := by decide +kernel
theorem dX7_bound_26 : decode cX7_bound 26 = .ok (.if_icmp .ne 12, 3) := by decide +kernel
theorem dX7_bound_29 : decode cX7_bound 29 = .ok (.aload_n 0, 1) := by decide +kernel
theorem dX7_bound_30 : decode cX7_bound 30 = .ok (.getfield 26, 3) := by decide +kernel
theorem dX7_bound_33 : decode cX7_bound 33 = .ok (.iload_n 2, 1) := by decide +kernel
theorem dX7_bound_34 : decode cX7_bound 34 = .ok (.iaload, 1) := by decide +kernel
theorem dX7_bound_35 : decode cX7_bound 35 = .ok (.goto 9, 3) := by decide +kernel
theorem dX7_bound_38 : decode cX7_bound 38 = .ok (.aload_n 0, 1) := by decide +kernel
theorem dX7_bound_39 : decode cX7_bound 39 = .ok (.getfield 29, 3) := by decide +kernel
theorem dX7_bound_42 : decode cX7_bound 42 = .ok (.iload_n 2, 1) := by decide +kernel
theorem dX7_bound_43 : decode cX7_bound 43 = .ok (.iaload, 1) := by decide +kernel
theorem dX7_bound_44 : decode cX7_bound 44 = .ok (.ireturn, 1) := by decide +kernel
theorem dX7_half_0 : decode cX7_half 0 = .ok (.iload_n 2, 1) := by decide +kernel
theorem dX7_half_1 : decode cX7_half 1 = .ok (.iload_n 1, 1) := by decide +kernel
theorem dX7_half_2 : decode cX7_half 2 = .ok (.iconst 1, 1) := by decide +kernel
theorem dX7_half_3 : decode cX7_half 3 = .ok (.isub, 1) := by decide +kernel
theorem dX7_half_4 : decode cX7_half 4 = .ok (.ishr, 1) := by decide +kernel
theorem dX7_half_5 : decode cX7_half 5 = .ok (.ifCond .ne 7, 3) := by decide +kernel
theorem dX7_half_8 : decode cX7_half 8 = .ok (.iload_n 2, 1) := by decide +kernel
theorem dX7_half_9 : decode cX7_half 9 = .ok (.goto 10, 3) := by decide +kernel
theorem dX7_half_12 : decode cX7_half 12 = .ok (.iconst 1, 1) := by decide +kernel
theorem dX7_half_13 : decode cX7_half 13 = .ok (.iload_n 1, 1) := by decide +kernel
theorem dX7_half_14 : decode cX7_half 14 = .ok (.ishl, 1) := by decide +kernel
theorem dX7_half_15 : decode cX7_half 15 = .ok (.iconst 1, 1) := by decide +kernel
theorem dX7_half_16 : decode cX7_half 16 = .ok (.isub, 1) := by decide +kernel
theorem dX7_half_17 : decode cX7_half 17 = .ok (.iload_n 2, 1) := by decide +kernel
theorem dX7_half_18 : decode cX7_half 18 = .ok (.isub, 1) := by decide +kernel
theorem dX7_half_19 : decode cX7_half 19 = .ok (.ireturn, 1) := by decide +kernel
theorem dX7_table_0 : decode cX7_table 0 = .ok (.aload_n 0, 1) := by decide +kernel
theorem dX7_table_1 : decode cX7_table 1 = .ok (.iload_n 1, 1) := by decide +kernel
theorem dX7_table_2 : decode cX7_table 2 = .ok (.iload_n 2, 1) := by decide +kernel
theorem dX7_table_3 : decode cX7_table 3 = .ok (.invokevirtual 130, 3) := by decide +kernel
theorem dX7_table_6 : decode cX7_table 6 = .ok (.istore_n 3, 1) := by decide +kernel
theorem dX7_table_7 : decode cX7_table 7 = .ok (.iload_n 1, 1) := by decide +kernel
theorem dX7_table_8 : decode cX7_table 8 = .ok (.iconst 2, 1) := by decide +kernel
theorem dX7_table_9 : decode cX7_table 9 = .ok (.if_icmp .ne 10, 3) := by decide +kernel
theorem dX7_table_12 : decode cX7_table 12 = .ok (.aload_n 0, 1) := by decide +kernel
theorem dX7_table_13 : decode cX7_table 13 = .ok (.getfield 32, 3) := by decide +kernel
theorem dX7_table_16 : decode cX7_table 16 = .ok (.iload_n 3, 1) := by decide +kernel
theorem dX7_table_17 : decode cX7_table 17 = .ok (.iaload, 1) := by decide +kernel
theorem dX7_table_18 : decode cX7_table 18 = .ok (.ireturn, 1) := by decide +kernel
theorem dX7_table_19 : decode cX7_table 19 = .ok (.iload_n 1, 1) := by decide +kernel
theorem dX7_table_20 : decode cX7_table 20 = .ok (.iconst 3, 1) := by decide +kernel
theorem dX7_table_21 : decode cX7_table 21 = .ok (.if_icmp .ne 10, 3) := by decide +kernel
