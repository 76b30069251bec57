/-! decoded, and bodies, by program out of the source beside the bytecode -/
theorem d_law_0 : decode code 0 = .ok (.new 7, 3) := by decide +kernel
theorem d_law_3 : decode code 3 = .ok (.dup, 1) := by decide +kernel
theorem d_law_4 : decode code 4 = .ok (.invokespecial 9, 3) := by decide +kernel
theorem d_law_7 : decode code 7 = .ok (.astore_n 1, 1) := by decide +kernel
theorem d_law_8 : decode code 8 = .ok (.new 10, 3) := by decide +kernel
theorem d_law_11 : decode code 11 = .ok (.dup, 1) := by decide +kernel
theorem d_law_12 : decode code 12 = .ok (.invokespecial 12, 3) := by decide +kernel
theorem d_law_15 : decode code 15 = .ok (.astore_n 2, 1) := by decide +kernel
theorem d_law_16 : decode code 16 = .ok (.iconst 0, 1) := by decide +kernel
theorem d_law_17 : decode code 17 = .ok (.istore_n 3, 1) := by decide +kernel
theorem d_law_18 : decode code 18 = .ok (.iload_n 3, 1) := by decide +kernel
theorem d_law_19 : decode code 19 = .ok (.aload_n 0, 1) := by decide +kernel
theorem d_law_20 : decode code 20 = .ok (.arraylength, 1) := by decide +kernel
theorem d_law_21 : decode code 21 = .ok (.iconst 5, 1) := by decide +kernel
theorem d_law_22 : decode code 22 = .ok (.isub, 1) := by decide +kernel
theorem d_law_23 : decode code 23 = .ok (.if_icmp .gt 1294, 3) := by decide +kernel
theorem d_law_26 : decode code 26 = .ok (.aload_n 0, 1) := by decide +kernel
theorem d_law_27 : decode code 27 = .ok (.iload_n 3, 1) := by decide +kernel
theorem d_law_28 : decode code 28 = .ok (.iaload, 1) := by decide +kernel
theorem d_law_29 : decode code 29 = .ok (.bipush 63, 2) := by decide +kernel
theorem d_law_31 : decode code 31 = .ok (.iand, 1) := by decide +kernel
theorem d_law_32 : decode code 32 = .ok (.tableswitch 1279 0 39 #[176, 199, 212, 245, 278, 311, 344, 387, 420, 443, 476, 499, 512, 545, 558, 571, 594, 637, 680, 713, 767, 790, 813, 846, 859, 882, 915, 948, 971, 1005, 1029, 1072, 1085, 1118, 1131, 1174, 1197, 1230, 1243, 1256], 176) := by decide +kernel
theorem d_law_208 : decode code 208 = .ok (.aload_n 1, 1) := by decide +kernel
theorem d_law_209 : decode code 209 = .ok (.aload_n 0, 1) := by decide +kernel
theorem d_law_210 : decode code 210 = .ok (.iload_n 3, 1) := by decide +kernel
theorem d_law_211 : decode code 211 = .ok (.iconst 1, 1) := by decide +kernel
theorem d_law_212 : decode code 212 = .ok (.iadd, 1) := by decide +kernel
theorem d_law_213 : decode code 213 = .ok (.iaload, 1) := by decide +kernel
theorem d_law_214 : decode code 214 = .ok (.invokevirtual 13, 3) := by decide +kernel
theorem d_law_217 : decode code 217 = .ok (.aload_n 2, 1) := by decide +kernel
theorem d_law_218 : decode code 218 = .ok (.aload_n 0, 1) := by decide +kernel
theorem d_law_219 : decode code 219 = .ok (.iload_n 3, 1) := by decide +kernel
theorem d_law_220 : decode code 220 = .ok (.iconst 1, 1) := by decide +kernel
theorem d_law_221 : decode code 221 = .ok (.iadd, 1) := by decide +kernel
theorem d_law_222 : decode code 222 = .ok (.iaload, 1) := by decide +kernel
theorem d_law_223 : decode code 223 = .ok (.invokevirtual 17, 3) := by decide +kernel
theorem d_law_226 : decode code 226 = .ok (.if_icmp .eq 1085, 3) := by decide +kernel
theorem d_law_229 : decode code 229 = .ok (.iconst 0, 1) := by decide +kernel
theorem d_law_230 : decode code 230 = .ok (.ireturn, 1) := by decide +kernel
theorem d_law_231 : decode code 231 = .ok (.aload_n 1, 1) := by decide +kernel
theorem d_law_232 : decode code 232 = .ok (.invokevirtual 18, 3) := by decide +kernel
theorem d_law_235 : decode code 235 = .ok (.aload_n 2, 1) := by decide +kernel
theorem d_law_236 : decode code 236 = .ok (.invokevirtual 22, 3) := by decide +kernel
theorem d_law_239 : decode code 239 = .ok (.if_icmp .eq 1072, 3) := by decide +kernel
theorem d_law_242 : decode code 242 = .ok (.iconst 0, 1) := by decide +kernel
theorem d_law_243 : decode code 243 = .ok (.ireturn, 1) := by decide +kernel
theorem d_law_244 : decode code 244 = .ok (.aload_n 1, 1) := by decide +kernel
theorem d_law_245 : decode code 245 = .ok (.aload_n 0, 1) := by decide +kernel
theorem d_law_246 : decode code 246 = .ok (.iload_n 3, 1) := by decide +kernel
theorem d_law_247 : decode code 247 = .ok (.iconst 1, 1) := by decide +kernel
theorem d_law_248 : decode code 248 = .ok (.iadd, 1) := by decide +kernel
theorem d_law_249 : decode code 249 = .ok (.iaload, 1) := by decide +kernel
theorem d_law_250 : decode code 250 = .ok (.aload_n 0, 1) := by decide +kernel
theorem d_law_251 : decode code 251 = .ok (.iload_n 3, 1) := by decide +kernel
theorem d_law_252 : decode code 252 = .ok (.iconst 2, 1) := by decide +kernel
theorem d_law_253 : decode code 253 = .ok (.iadd, 1) := by decide +kernel
theorem d_law_254 : decode code 254 = .ok (.iaload, 1) := by decide +kernel
theorem d_law_255 : decode code 255 = .ok (.invokevirtual 23, 3) := by decide +kernel
theorem d_law_258 : decode code 258 = .ok (.aload_n 2, 1) := by decide +kernel
theorem d_law_259 : decode code 259 = .ok (.aload_n 0, 1) := by decide +kernel
theorem d_law_260 : decode code 260 = .ok (.iload_n 3, 1) := by decide +kernel
theorem d_law_261 : decode code 261 = .ok (.iconst 1, 1) := by decide +kernel
theorem d_law_262 : decode code 262 = .ok (.iadd, 1) := by decide +kernel
theorem d_law_263 : decode code 263 = .ok (.iaload, 1) := by decide +kernel
theorem d_law_264 : decode code 264 = .ok (.aload_n 0, 1) := by decide +kernel
theorem d_law_265 : decode code 265 = .ok (.iload_n 3, 1) := by decide +kernel
theorem d_law_266 : decode code 266 = .ok (.iconst 2, 1) := by decide +kernel
theorem d_law_267 : decode code 267 = .ok (.iadd, 1) := by decide +kernel
theorem d_law_268 : decode code 268 = .ok (.iaload, 1) := by decide +kernel
theorem d_law_269 : decode code 269 = .ok (.invokevirtual 27, 3) := by decide +kernel
theorem d_law_272 : decode code 272 = .ok (.if_icmp .eq 1039, 3) := by decide +kernel
theorem d_law_275 : decode code 275 = .ok (.iconst 0, 1) := by decide +kernel
theorem d_law_276 : decode code 276 = .ok (.ireturn, 1) := by decide +kernel
theorem d_law_277 : decode code 277 = .ok (.aload_n 1, 1) := by decide +kernel
theorem d_law_278 : decode code 278 = .ok (.aload_n 0, 1) := by decide +kernel
theorem d_law_279 : decode code 279 = .ok (.iload_n 3, 1) := by decide +kernel
theorem d_law_280 : decode code 280 = .ok (.iconst 1, 1) := by decide +kernel
theorem d_law_281 : decode code 281 = .ok (.iadd, 1) := by decide +kernel
theorem d_law_282 : decode code 282 = .ok (.iaload, 1) := by decide +kernel
theorem d_law_283 : decode code 283 = .ok (.aload_n 0, 1) := by decide +kernel
theorem d_law_284 : decode code 284 = .ok (.iload_n 3, 1) := by decide +kernel
theorem d_law_285 : decode code 285 = .ok (.iconst 2, 1) := by decide +kernel
theorem d_law_286 : decode code 286 = .ok (.iadd, 1) := by decide +kernel
theorem d_law_287 : decode code 287 = .ok (.iaload, 1) := by decide +kernel
theorem d_law_288 : decode code 288 = .ok (.invokevirtual 28, 3) := by decide +kernel
theorem d_law_291 : decode code 291 = .ok (.aload_n 2, 1) := by decide +kernel
theorem d_law_292 : decode code 292 = .ok (.aload_n 0, 1) := by decide +kernel
theorem d_law_293 : decode code 293 = .ok (.iload_n 3, 1) := by decide +kernel
theorem d_law_294 : decode code 294 = .ok (.iconst 1, 1) := by decide +kernel
theorem d_law_295 : decode code 295 = .ok (.iadd, 1) := by decide +kernel
theorem d_law_296 : decode code 296 = .ok (.iaload, 1) := by decide +kernel
theorem d_law_297 : decode code 297 = .ok (.aload_n 0, 1) := by decide +kernel
theorem d_law_298 : decode code 298 = .ok (.iload_n 3, 1) := by decide +kernel
theorem d_law_299 : decode code 299 = .ok (.iconst 2, 1) := by decide +kernel
theorem d_law_300 : decode code 300 = .ok (.iadd, 1) := by decide +kernel
theorem d_law_301 : decode code 301 = .ok (.iaload, 1) := by decide +kernel
theorem d_law_302 : decode code 302 = .ok (.invokevirtual 31, 3) := by decide +kernel
theorem d_law_305 : decode code 305 = .ok (.if_icmp .eq 1006, 3) := by decide +kernel
theorem d_law_308 : decode code 308 = .ok (.iconst 0, 1) := by decide +kernel
theorem d_law_309 : decode code 309 = .ok (.ireturn, 1) := by decide +kernel
theorem d_law_310 : decode code 310 = .ok (.aload_n 1, 1) := by decide +kernel
theorem d_law_311 : decode code 311 = .ok (.aload_n 0, 1) := by decide +kernel
theorem d_law_312 : decode code 312 = .ok (.iload_n 3, 1) := by decide +kernel
theorem d_law_313 : decode code 313 = .ok (.iconst 1, 1) := by decide +kernel
theorem d_law_314 : decode code 314 = .ok (.iadd, 1) := by decide +kernel
theorem d_law_315 : decode code 315 = .ok (.iaload, 1) := by decide +kernel
theorem d_law_316 : decode code 316 = .ok (.aload_n 0, 1) := by decide +kernel
theorem d_law_317 : decode code 317 = .ok (.iload_n 3, 1) := by decide +kernel
theorem d_law_318 : decode code 318 = .ok (.iconst 2, 1) := by decide +kernel
theorem d_law_319 : decode code 319 = .ok (.iadd, 1) := by decide +kernel
theorem d_law_320 : decode code 320 = .ok (.iaload, 1) := by decide +kernel
theorem d_law_321 : decode code 321 = .ok (.invokevirtual 32, 3) := by decide +kernel
theorem d_law_324 : decode code 324 = .ok (.aload_n 2, 1) := by decide +kernel
theorem d_law_325 : decode code 325 = .ok (.aload_n 0, 1) := by decide +kernel
theorem d_law_326 : decode code 326 = .ok (.iload_n 3, 1) := by decide +kernel
theorem d_law_327 : decode code 327 = .ok (.iconst 1, 1) := by decide +kernel
theorem d_law_328 : decode code 328 = .ok (.iadd, 1) := by decide +kernel
theorem d_law_329 : decode code 329 = .ok (.iaload, 1) := by decide +kernel
theorem d_law_330 : decode code 330 = .ok (.aload_n 0, 1) := by decide +kernel
theorem d_law_331 : decode code 331 = .ok (.iload_n 3, 1) := by decide +kernel
theorem d_law_332 : decode code 332 = .ok (.iconst 2, 1) := by decide +kernel
theorem d_law_333 : decode code 333 = .ok (.iadd, 1) := by decide +kernel
theorem d_law_334 : decode code 334 = .ok (.iaload, 1) := by decide +kernel
theorem d_law_335 : decode code 335 = .ok (.invokevirtual 35, 3) := by decide +kernel
theorem d_law_338 : decode code 338 = .ok (.if_icmp .eq 973, 3) := by decide +kernel
theorem d_law_341 : decode code 341 = .ok (.iconst 0, 1) := by decide +kernel
theorem d_law_342 : decode code 342 = .ok (.ireturn, 1) := by decide +kernel
theorem d_law_343 : decode code 343 = .ok (.aload_n 1, 1) := by decide +kernel
theorem d_law_344 : decode code 344 = .ok (.aload_n 0, 1) := by decide +kernel
theorem d_law_345 : decode code 345 = .ok (.iload_n 3, 1) := by decide +kernel
theorem d_law_346 : decode code 346 = .ok (.iconst 1, 1) := by decide +kernel
theorem d_law_347 : decode code 347 = .ok (.iadd, 1) := by decide +kernel
theorem d_law_348 : decode code 348 = .ok (.iaload, 1) := by decide +kernel
theorem d_law_349 : decode code 349 = .ok (.aload_n 0, 1) := by decide +kernel
theorem d_law_350 : decode code 350 = .ok (.iload_n 3, 1) := by decide +kernel
theorem d_law_351 : decode code 351 = .ok (.iconst 2, 1) := by decide +kernel
theorem d_law_352 : decode code 352 = .ok (.iadd, 1) := by decide +kernel
theorem d_law_353 : decode code 353 = .ok (.iaload, 1) := by decide +kernel
theorem d_law_354 : decode code 354 = .ok (.invokevirtual 36, 3) := by decide +kernel
theorem d_law_357 : decode code 357 = .ok (.aload_n 2, 1) := by decide +kernel
theorem d_law_358 : decode code 358 = .ok (.aload_n 0, 1) := by decide +kernel
theorem d_law_359 : decode code 359 = .ok (.iload_n 3, 1) := by decide +kernel
theorem d_law_360 : decode code 360 = .ok (.iconst 1, 1) := by decide +kernel
theorem d_law_361 : decode code 361 = .ok (.iadd, 1) := by decide +kernel
theorem d_law_362 : decode code 362 = .ok (.iaload, 1) := by decide +kernel
theorem d_law_363 : decode code 363 = .ok (.aload_n 0, 1) := by decide +kernel
theorem d_law_364 : decode code 364 = .ok (.iload_n 3, 1) := by decide +kernel
theorem d_law_365 : decode code 365 = .ok (.iconst 2, 1) := by decide +kernel
theorem d_law_366 : decode code 366 = .ok (.iadd, 1) := by decide +kernel
theorem d_law_367 : decode code 367 = .ok (.iaload, 1) := by decide +kernel
theorem d_law_368 : decode code 368 = .ok (.invokevirtual 39, 3) := by decide +kernel
theorem d_law_371 : decode code 371 = .ok (.if_icmp .eq 940, 3) := by decide +kernel
theorem d_law_374 : decode code 374 = .ok (.iconst 0, 1) := by decide +kernel
theorem d_law_375 : decode code 375 = .ok (.ireturn, 1) := by decide +kernel
theorem d_law_376 : decode code 376 = .ok (.aload_n 1, 1) := by decide +kernel
theorem d_law_377 : decode code 377 = .ok (.aload_n 0, 1) := by decide +kernel
theorem d_law_378 : decode code 378 = .ok (.iload_n 3, 1) := by decide +kernel
theorem d_law_379 : decode code 379 = .ok (.iconst 1, 1) := by decide +kernel
theorem d_law_380 : decode code 380 = .ok (.iadd, 1) := by decide +kernel
theorem d_law_381 : decode code 381 = .ok (.iaload, 1) := by decide +kernel
theorem d_law_382 : decode code 382 = .ok (.aload_n 0, 1) := by decide +kernel
theorem d_law_383 : decode code 383 = .ok (.iload_n 3, 1) := by decide +kernel
theorem d_law_384 : decode code 384 = .ok (.iconst 2, 1) := by decide +kernel
theorem d_law_385 : decode code 385 = .ok (.iadd, 1) := by decide +kernel
theorem d_law_386 : decode code 386 = .ok (.iaload, 1) := by decide +kernel
theorem d_law_387 : decode code 387 = .ok (.aload_n 0, 1) := by decide +kernel
theorem d_law_388 : decode code 388 = .ok (.iload_n 3, 1) := by decide +kernel
theorem d_law_389 : decode code 389 = .ok (.iconst 3, 1) := by decide +kernel
theorem d_law_390 : decode code 390 = .ok (.iadd, 1) := by decide +kernel
theorem d_law_391 : decode code 391 = .ok (.iaload, 1) := by decide +kernel
theorem d_law_392 : decode code 392 = .ok (.invokevirtual 40, 3) := by decide +kernel
theorem d_law_395 : decode code 395 = .ok (.aload_n 2, 1) := by decide +kernel
theorem d_law_396 : decode code 396 = .ok (.aload_n 0, 1) := by decide +kernel
theorem d_law_397 : decode code 397 = .ok (.iload_n 3, 1) := by decide +kernel
theorem d_law_398 : decode code 398 = .ok (.iconst 1, 1) := by decide +kernel
theorem d_law_399 : decode code 399 = .ok (.iadd, 1) := by decide +kernel
theorem d_law_400 : decode code 400 = .ok (.iaload, 1) := by decide +kernel
theorem d_law_401 : decode code 401 = .ok (.aload_n 0, 1) := by decide +kernel
theorem d_law_402 : decode code 402 = .ok (.iload_n 3, 1) := by decide +kernel
theorem d_law_403 : decode code 403 = .ok (.iconst 2, 1) := by decide +kernel
theorem d_law_404 : decode code 404 = .ok (.iadd, 1) := by decide +kernel
theorem d_law_405 : decode code 405 = .ok (.iaload, 1) := by decide +kernel
theorem d_law_406 : decode code 406 = .ok (.aload_n 0, 1) := by decide +kernel
theorem d_law_407 : decode code 407 = .ok (.iload_n 3, 1) := by decide +kernel
theorem d_law_408 : decode code 408 = .ok (.iconst 3, 1) := by decide +kernel
theorem d_law_409 : decode code 409 = .ok (.iadd, 1) := by decide +kernel
theorem d_law_410 : decode code 410 = .ok (.iaload, 1) := by decide +kernel
theorem d_law_411 : decode code 411 = .ok (.invokevirtual 44, 3) := by decide +kernel
theorem d_law_414 : decode code 414 = .ok (.if_icmp .eq 897, 3) := by decide +kernel
theorem d_law_417 : decode code 417 = .ok (.iconst 0, 1) := by decide +kernel
theorem d_law_418 : decode code 418 = .ok (.ireturn, 1) := by decide +kernel
theorem d_law_419 : decode code 419 = .ok (.aload_n 1, 1) := by decide +kernel
theorem d_law_420 : decode code 420 = .ok (.aload_n 0, 1) := by decide +kernel
theorem d_law_421 : decode code 421 = .ok (.iload_n 3, 1) := by decide +kernel
theorem d_law_422 : decode code 422 = .ok (.iconst 1, 1) := by decide +kernel
theorem d_law_423 : decode code 423 = .ok (.iadd, 1) := by decide +kernel
theorem d_law_424 : decode code 424 = .ok (.iaload, 1) := by decide +kernel
theorem d_law_425 : decode code 425 = .ok (.aload_n 0, 1) := by decide +kernel
theorem d_law_426 : decode code 426 = .ok (.iload_n 3, 1) := by decide +kernel
theorem d_law_427 : decode code 427 = .ok (.iconst 2, 1) := by decide +kernel
theorem d_law_428 : decode code 428 = .ok (.iadd, 1) := by decide +kernel
theorem d_law_429 : decode code 429 = .ok (.iaload, 1) := by decide +kernel
theorem d_law_430 : decode code 430 = .ok (.invokevirtual 45, 3) := by decide +kernel
theorem d_law_433 : decode code 433 = .ok (.aload_n 2, 1) := by decide +kernel
theorem d_law_434 : decode code 434 = .ok (.aload_n 0, 1) := by decide +kernel
theorem d_law_435 : decode code 435 = .ok (.iload_n 3, 1) := by decide +kernel
theorem d_law_436 : decode code 436 = .ok (.iconst 1, 1) := by decide +kernel
theorem d_law_437 : decode code 437 = .ok (.iadd, 1) := by decide +kernel
theorem d_law_438 : decode code 438 = .ok (.iaload, 1) := by decide +kernel
theorem d_law_439 : decode code 439 = .ok (.aload_n 0, 1) := by decide +kernel
theorem d_law_440 : decode code 440 = .ok (.iload_n 3, 1) := by decide +kernel
theorem d_law_441 : decode code 441 = .ok (.iconst 2, 1) := by decide +kernel
theorem d_law_442 : decode code 442 = .ok (.iadd, 1) := by decide +kernel
theorem d_law_443 : decode code 443 = .ok (.iaload, 1) := by decide +kernel
theorem d_law_444 : decode code 444 = .ok (.invokevirtual 48, 3) := by decide +kernel
theorem d_law_447 : decode code 447 = .ok (.if_icmp .eq 864, 3) := by decide +kernel
theorem d_law_450 : decode code 450 = .ok (.iconst 0, 1) := by decide +kernel
theorem d_law_451 : decode code 451 = .ok (.ireturn, 1) := by decide +kernel
theorem d_law_452 : decode code 452 = .ok (.aload_n 1, 1) := by decide +kernel
theorem d_law_453 : decode code 453 = .ok (.aload_n 0, 1) := by decide +kernel
theorem d_law_454 : decode code 454 = .ok (.iload_n 3, 1) := by decide +kernel
theorem d_law_455 : decode code 455 = .ok (.iconst 1, 1) := by decide +kernel
theorem d_law_456 : decode code 456 = .ok (.iadd, 1) := by decide +kernel
theorem d_law_457 : decode code 457 = .ok (.iaload, 1) := by decide +kernel
theorem d_law_458 : decode code 458 = .ok (.invokevirtual 49, 3) := by decide +kernel
theorem d_law_461 : decode code 461 = .ok (.aload_n 2, 1) := by decide +kernel
theorem d_law_462 : decode code 462 = .ok (.aload_n 0, 1) := by decide +kernel
theorem d_law_463 : decode code 463 = .ok (.iload_n 3, 1) := by decide +kernel
theorem d_law_464 : decode code 464 = .ok (.iconst 1, 1) := by decide +kernel
theorem d_law_465 : decode code 465 = .ok (.iadd, 1) := by decide +kernel
theorem d_law_466 : decode code 466 = .ok (.iaload, 1) := by decide +kernel
theorem d_law_467 : decode code 467 = .ok (.invokevirtual 52, 3) := by decide +kernel
theorem d_law_470 : decode code 470 = .ok (.if_icmp .eq 841, 3) := by decide +kernel
theorem d_law_473 : decode code 473 = .ok (.iconst 0, 1) := by decide +kernel
theorem d_law_474 : decode code 474 = .ok (.ireturn, 1) := by decide +kernel
theorem d_law_475 : decode code 475 = .ok (.aload_n 1, 1) := by decide +kernel
theorem d_law_476 : decode code 476 = .ok (.aload_n 0, 1) := by decide +kernel
theorem d_law_477 : decode code 477 = .ok (.iload_n 3, 1) := by decide +kernel
theorem d_law_478 : decode code 478 = .ok (.iconst 1, 1) := by decide +kernel
theorem d_law_479 : decode code 479 = .ok (.iadd, 1) := by decide +kernel
theorem d_law_480 : decode code 480 = .ok (.iaload, 1) := by decide +kernel
theorem d_law_481 : decode code 481 = .ok (.aload_n 0, 1) := by decide +kernel
theorem d_law_482 : decode code 482 = .ok (.iload_n 3, 1) := by decide +kernel
theorem d_law_483 : decode code 483 = .ok (.iconst 2, 1) := by decide +kernel
theorem d_law_484 : decode code 484 = .ok (.iadd, 1) := by decide +kernel
theorem d_law_485 : decode code 485 = .ok (.iaload, 1) := by decide +kernel
theorem d_law_486 : decode code 486 = .ok (.invokevirtual 53, 3) := by decide +kernel
theorem d_law_489 : decode code 489 = .ok (.aload_n 2, 1) := by decide +kernel
theorem d_law_490 : decode code 490 = .ok (.aload_n 0, 1) := by decide +kernel
theorem d_law_491 : decode code 491 = .ok (.iload_n 3, 1) := by decide +kernel
theorem d_law_492 : decode code 492 = .ok (.iconst 1, 1) := by decide +kernel
theorem d_law_493 : decode code 493 = .ok (.iadd, 1) := by decide +kernel
theorem d_law_494 : decode code 494 = .ok (.iaload, 1) := by decide +kernel
theorem d_law_495 : decode code 495 = .ok (.aload_n 0, 1) := by decide +kernel
theorem d_law_496 : decode code 496 = .ok (.iload_n 3, 1) := by decide +kernel
theorem d_law_497 : decode code 497 = .ok (.iconst 2, 1) := by decide +kernel
theorem d_law_498 : decode code 498 = .ok (.iadd, 1) := by decide +kernel
theorem d_law_499 : decode code 499 = .ok (.iaload, 1) := by decide +kernel
theorem d_law_500 : decode code 500 = .ok (.invokevirtual 56, 3) := by decide +kernel
theorem d_law_503 : decode code 503 = .ok (.if_icmp .eq 808, 3) := by decide +kernel
theorem d_law_506 : decode code 506 = .ok (.iconst 0, 1) := by decide +kernel
theorem d_law_507 : decode code 507 = .ok (.ireturn, 1) := by decide +kernel
theorem d_law_508 : decode code 508 = .ok (.aload_n 1, 1) := by decide +kernel
theorem d_law_509 : decode code 509 = .ok (.aload_n 0, 1) := by decide +kernel
theorem d_law_510 : decode code 510 = .ok (.iload_n 3, 1) := by decide +kernel
theorem d_law_511 : decode code 511 = .ok (.iconst 1, 1) := by decide +kernel
theorem d_law_512 : decode code 512 = .ok (.iadd, 1) := by decide +kernel
theorem d_law_513 : decode code 513 = .ok (.iaload, 1) := by decide +kernel
theorem d_law_514 : decode code 514 = .ok (.invokevirtual 57, 3) := by decide +kernel
theorem d_law_517 : decode code 517 = .ok (.aload_n 2, 1) := by decide +kernel
theorem d_law_518 : decode code 518 = .ok (.aload_n 0, 1) := by decide +kernel
theorem d_law_519 : decode code 519 = .ok (.iload_n 3, 1) := by decide +kernel
theorem d_law_520 : decode code 520 = .ok (.iconst 1, 1) := by decide +kernel
theorem d_law_521 : decode code 521 = .ok (.iadd, 1) := by decide +kernel
theorem d_law_522 : decode code 522 = .ok (.iaload, 1) := by decide +kernel
theorem d_law_523 : decode code 523 = .ok (.invokevirtual 60, 3) := by decide +kernel
theorem d_law_526 : decode code 526 = .ok (.if_icmp .eq 785, 3) := by decide +kernel
theorem d_law_529 : decode code 529 = .ok (.iconst 0, 1) := by decide +kernel
theorem d_law_530 : decode code 530 = .ok (.ireturn, 1) := by decide +kernel
theorem d_law_531 : decode code 531 = .ok (.aload_n 1, 1) := by decide +kernel
theorem d_law_532 : decode code 532 = .ok (.invokevirtual 61, 3) := by decide +kernel
theorem d_law_535 : decode code 535 = .ok (.aload_n 2, 1) := by decide +kernel
theorem d_law_536 : decode code 536 = .ok (.invokevirtual 64, 3) := by decide +kernel
theorem d_law_539 : decode code 539 = .ok (.if_icmp .eq 772, 3) := by decide +kernel
theorem d_law_542 : decode code 542 = .ok (.iconst 0, 1) := by decide +kernel
theorem d_law_543 : decode code 543 = .ok (.ireturn, 1) := by decide +kernel
theorem d_law_544 : decode code 544 = .ok (.aload_n 1, 1) := by decide +kernel
theorem d_law_545 : decode code 545 = .ok (.aload_n 0, 1) := by decide +kernel
theorem d_law_546 : decode code 546 = .ok (.iload_n 3, 1) := by decide +kernel
theorem d_law_547 : decode code 547 = .ok (.iconst 1, 1) := by decide +kernel
theorem d_law_548 : decode code 548 = .ok (.iadd, 1) := by decide +kernel
theorem d_law_549 : decode code 549 = .ok (.iaload, 1) := by decide +kernel
theorem d_law_550 : decode code 550 = .ok (.aload_n 0, 1) := by decide +kernel
theorem d_law_551 : decode code 551 = .ok (.iload_n 3, 1) := by decide +kernel
theorem d_law_552 : decode code 552 = .ok (.iconst 2, 1) := by decide +kernel
theorem d_law_553 : decode code 553 = .ok (.iadd, 1) := by decide +kernel
theorem d_law_554 : decode code 554 = .ok (.iaload, 1) := by decide +kernel
theorem d_law_555 : decode code 555 = .ok (.invokevirtual 65, 3) := by decide +kernel
theorem d_law_558 : decode code 558 = .ok (.aload_n 2, 1) := by decide +kernel
theorem d_law_559 : decode code 559 = .ok (.aload_n 0, 1) := by decide +kernel
theorem d_law_560 : decode code 560 = .ok (.iload_n 3, 1) := by decide +kernel
theorem d_law_561 : decode code 561 = .ok (.iconst 1, 1) := by decide +kernel
theorem d_law_562 : decode code 562 = .ok (.iadd, 1) := by decide +kernel
theorem d_law_563 : decode code 563 = .ok (.iaload, 1) := by decide +kernel
theorem d_law_564 : decode code 564 = .ok (.aload_n 0, 1) := by decide +kernel
theorem d_law_565 : decode code 565 = .ok (.iload_n 3, 1) := by decide +kernel
theorem d_law_566 : decode code 566 = .ok (.iconst 2, 1) := by decide +kernel
theorem d_law_567 : decode code 567 = .ok (.iadd, 1) := by decide +kernel
theorem d_law_568 : decode code 568 = .ok (.iaload, 1) := by decide +kernel
theorem d_law_569 : decode code 569 = .ok (.invokevirtual 68, 3) := by decide +kernel
theorem d_law_572 : decode code 572 = .ok (.if_icmp .eq 739, 3) := by decide +kernel
theorem d_law_575 : decode code 575 = .ok (.iconst 0, 1) := by decide +kernel
theorem d_law_576 : decode code 576 = .ok (.ireturn, 1) := by decide +kernel
theorem d_law_577 : decode code 577 = .ok (.aload_n 1, 1) := by decide +kernel
theorem d_law_578 : decode code 578 = .ok (.invokevirtual 69, 3) := by decide +kernel
theorem d_law_581 : decode code 581 = .ok (.aload_n 2, 1) := by decide +kernel
theorem d_law_582 : decode code 582 = .ok (.invokevirtual 72, 3) := by decide +kernel
theorem d_law_585 : decode code 585 = .ok (.if_icmp .eq 726, 3) := by decide +kernel
theorem d_law_588 : decode code 588 = .ok (.iconst 0, 1) := by decide +kernel
theorem d_law_589 : decode code 589 = .ok (.ireturn, 1) := by decide +kernel
theorem d_law_590 : decode code 590 = .ok (.aload_n 1, 1) := by decide +kernel
theorem d_law_591 : decode code 591 = .ok (.invokevirtual 73, 3) := by decide +kernel
theorem d_law_594 : decode code 594 = .ok (.aload_n 2, 1) := by decide +kernel
theorem d_law_595 : decode code 595 = .ok (.invokevirtual 76, 3) := by decide +kernel
theorem d_law_598 : decode code 598 = .ok (.if_icmp .eq 713, 3) := by decide +kernel
theorem d_law_601 : decode code 601 = .ok (.iconst 0, 1) := by decide +kernel
theorem d_law_602 : decode code 602 = .ok (.ireturn, 1) := by decide +kernel
theorem d_law_603 : decode code 603 = .ok (.aload_n 1, 1) := by decide +kernel
theorem d_law_604 : decode code 604 = .ok (.aload_n 0, 1) := by decide +kernel
theorem d_law_605 : decode code 605 = .ok (.iload_n 3, 1) := by decide +kernel
theorem d_law_606 : decode code 606 = .ok (.iconst 1, 1) := by decide +kernel
theorem d_law_607 : decode code 607 = .ok (.iadd, 1) := by decide +kernel
theorem d_law_608 : decode code 608 = .ok (.iaload, 1) := by decide +kernel
theorem d_law_609 : decode code 609 = .ok (.invokevirtual 77, 3) := by decide +kernel
theorem d_law_612 : decode code 612 = .ok (.aload_n 2, 1) := by decide +kernel
theorem d_law_613 : decode code 613 = .ok (.aload_n 0, 1) := by decide +kernel
theorem d_law_614 : decode code 614 = .ok (.iload_n 3, 1) := by decide +kernel
theorem d_law_615 : decode code 615 = .ok (.iconst 1, 1) := by decide +kernel
theorem d_law_616 : decode code 616 = .ok (.iadd, 1) := by decide +kernel
theorem d_law_617 : decode code 617 = .ok (.iaload, 1) := by decide +kernel
theorem d_law_618 : decode code 618 = .ok (.invokevirtual 80, 3) := by decide +kernel
theorem d_law_621 : decode code 621 = .ok (.if_icmp .eq 690, 3) := by decide +kernel
theorem d_law_624 : decode code 624 = .ok (.iconst 0, 1) := by decide +kernel
theorem d_law_625 : decode code 625 = .ok (.ireturn, 1) := by decide +kernel
theorem d_law_626 : decode code 626 = .ok (.aload_n 1, 1) := by decide +kernel
theorem d_law_627 : decode code 627 = .ok (.aload_n 0, 1) := by decide +kernel
theorem d_law_628 : decode code 628 = .ok (.iload_n 3, 1) := by decide +kernel
theorem d_law_629 : decode code 629 = .ok (.iconst 1, 1) := by decide +kernel
theorem d_law_630 : decode code 630 = .ok (.iadd, 1) := by decide +kernel
theorem d_law_631 : decode code 631 = .ok (.iaload, 1) := by decide +kernel
theorem d_law_632 : decode code 632 = .ok (.aload_n 0, 1) := by decide +kernel
theorem d_law_633 : decode code 633 = .ok (.iload_n 3, 1) := by decide +kernel
theorem d_law_634 : decode code 634 = .ok (.iconst 2, 1) := by decide +kernel
theorem d_law_635 : decode code 635 = .ok (.iadd, 1) := by decide +kernel
theorem d_law_636 : decode code 636 = .ok (.iaload, 1) := by decide +kernel
theorem d_law_637 : decode code 637 = .ok (.aload_n 0, 1) := by decide +kernel
theorem d_law_638 : decode code 638 = .ok (.iload_n 3, 1) := by decide +kernel
theorem d_law_639 : decode code 639 = .ok (.iconst 3, 1) := by decide +kernel
theorem d_law_640 : decode code 640 = .ok (.iadd, 1) := by decide +kernel
theorem d_law_641 : decode code 641 = .ok (.iaload, 1) := by decide +kernel
theorem d_law_642 : decode code 642 = .ok (.invokevirtual 81, 3) := by decide +kernel
theorem d_law_645 : decode code 645 = .ok (.aload_n 2, 1) := by decide +kernel
theorem d_law_646 : decode code 646 = .ok (.aload_n 0, 1) := by decide +kernel
theorem d_law_647 : decode code 647 = .ok (.iload_n 3, 1) := by decide +kernel
theorem d_law_648 : decode code 648 = .ok (.iconst 1, 1) := by decide +kernel
theorem d_law_649 : decode code 649 = .ok (.iadd, 1) := by decide +kernel
theorem d_law_650 : decode code 650 = .ok (.iaload, 1) := by decide +kernel
theorem d_law_651 : decode code 651 = .ok (.aload_n 0, 1) := by decide +kernel
theorem d_law_652 : decode code 652 = .ok (.iload_n 3, 1) := by decide +kernel
theorem d_law_653 : decode code 653 = .ok (.iconst 2, 1) := by decide +kernel
theorem d_law_654 : decode code 654 = .ok (.iadd, 1) := by decide +kernel
theorem d_law_655 : decode code 655 = .ok (.iaload, 1) := by decide +kernel
theorem d_law_656 : decode code 656 = .ok (.aload_n 0, 1) := by decide +kernel
theorem d_law_657 : decode code 657 = .ok (.iload_n 3, 1) := by decide +kernel
theorem d_law_658 : decode code 658 = .ok (.iconst 3, 1) := by decide +kernel
theorem d_law_659 : decode code 659 = .ok (.iadd, 1) := by decide +kernel
theorem d_law_660 : decode code 660 = .ok (.iaload, 1) := by decide +kernel
theorem d_law_661 : decode code 661 = .ok (.invokevirtual 84, 3) := by decide +kernel
theorem d_law_664 : decode code 664 = .ok (.if_icmp .eq 647, 3) := by decide +kernel
theorem d_law_667 : decode code 667 = .ok (.iconst 0, 1) := by decide +kernel
theorem d_law_668 : decode code 668 = .ok (.ireturn, 1) := by decide +kernel
theorem d_law_669 : decode code 669 = .ok (.aload_n 1, 1) := by decide +kernel
theorem d_law_670 : decode code 670 = .ok (.aload_n 0, 1) := by decide +kernel
theorem d_law_671 : decode code 671 = .ok (.iload_n 3, 1) := by decide +kernel
theorem d_law_672 : decode code 672 = .ok (.iconst 1, 1) := by decide +kernel
theorem d_law_673 : decode code 673 = .ok (.iadd, 1) := by decide +kernel
theorem d_law_674 : decode code 674 = .ok (.iaload, 1) := by decide +kernel
theorem d_law_675 : decode code 675 = .ok (.aload_n 0, 1) := by decide +kernel
theorem d_law_676 : decode code 676 = .ok (.iload_n 3, 1) := by decide +kernel
theorem d_law_677 : decode code 677 = .ok (.iconst 2, 1) := by decide +kernel
theorem d_law_678 : decode code 678 = .ok (.iadd, 1) := by decide +kernel
theorem d_law_679 : decode code 679 = .ok (.iaload, 1) := by decide +kernel
theorem d_law_680 : decode code 680 = .ok (.aload_n 0, 1) := by decide +kernel
theorem d_law_681 : decode code 681 = .ok (.iload_n 3, 1) := by decide +kernel
theorem d_law_682 : decode code 682 = .ok (.iconst 3, 1) := by decide +kernel
theorem d_law_683 : decode code 683 = .ok (.iadd, 1) := by decide +kernel
theorem d_law_684 : decode code 684 = .ok (.iaload, 1) := by decide +kernel
theorem d_law_685 : decode code 685 = .ok (.invokevirtual 85, 3) := by decide +kernel
theorem d_law_688 : decode code 688 = .ok (.aload_n 2, 1) := by decide +kernel
theorem d_law_689 : decode code 689 = .ok (.aload_n 0, 1) := by decide +kernel
theorem d_law_690 : decode code 690 = .ok (.iload_n 3, 1) := by decide +kernel
theorem d_law_691 : decode code 691 = .ok (.iconst 1, 1) := by decide +kernel
theorem d_law_692 : decode code 692 = .ok (.iadd, 1) := by decide +kernel
theorem d_law_693 : decode code 693 = .ok (.iaload, 1) := by decide +kernel
theorem d_law_694 : decode code 694 = .ok (.aload_n 0, 1) := by decide +kernel
theorem d_law_695 : decode code 695 = .ok (.iload_n 3, 1) := by decide +kernel
theorem d_law_696 : decode code 696 = .ok (.iconst 2, 1) := by decide +kernel
theorem d_law_697 : decode code 697 = .ok (.iadd, 1) := by decide +kernel
theorem d_law_698 : decode code 698 = .ok (.iaload, 1) := by decide +kernel
theorem d_law_699 : decode code 699 = .ok (.aload_n 0, 1) := by decide +kernel
theorem d_law_700 : decode code 700 = .ok (.iload_n 3, 1) := by decide +kernel
theorem d_law_701 : decode code 701 = .ok (.iconst 3, 1) := by decide +kernel
theorem d_law_702 : decode code 702 = .ok (.iadd, 1) := by decide +kernel
theorem d_law_703 : decode code 703 = .ok (.iaload, 1) := by decide +kernel
theorem d_law_704 : decode code 704 = .ok (.invokevirtual 88, 3) := by decide +kernel
theorem d_law_707 : decode code 707 = .ok (.if_icmp .eq 604, 3) := by decide +kernel
theorem d_law_710 : decode code 710 = .ok (.iconst 0, 1) := by decide +kernel
theorem d_law_711 : decode code 711 = .ok (.ireturn, 1) := by decide +kernel
theorem d_law_712 : decode code 712 = .ok (.aload_n 1, 1) := by decide +kernel
theorem d_law_713 : decode code 713 = .ok (.aload_n 0, 1) := by decide +kernel
theorem d_law_714 : decode code 714 = .ok (.iload_n 3, 1) := by decide +kernel
theorem d_law_715 : decode code 715 = .ok (.iconst 1, 1) := by decide +kernel
theorem d_law_716 : decode code 716 = .ok (.iadd, 1) := by decide +kernel
theorem d_law_717 : decode code 717 = .ok (.iaload, 1) := by decide +kernel
theorem d_law_718 : decode code 718 = .ok (.aload_n 0, 1) := by decide +kernel
theorem d_law_719 : decode code 719 = .ok (.iload_n 3, 1) := by decide +kernel
theorem d_law_720 : decode code 720 = .ok (.iconst 2, 1) := by decide +kernel
theorem d_law_721 : decode code 721 = .ok (.iadd, 1) := by decide +kernel
theorem d_law_722 : decode code 722 = .ok (.iaload, 1) := by decide +kernel
theorem d_law_723 : decode code 723 = .ok (.invokevirtual 89, 3) := by decide +kernel
theorem d_law_726 : decode code 726 = .ok (.aload_n 2, 1) := by decide +kernel
theorem d_law_727 : decode code 727 = .ok (.aload_n 0, 1) := by decide +kernel
theorem d_law_728 : decode code 728 = .ok (.iload_n 3, 1) := by decide +kernel
theorem d_law_729 : decode code 729 = .ok (.iconst 1, 1) := by decide +kernel
theorem d_law_730 : decode code 730 = .ok (.iadd, 1) := by decide +kernel
theorem d_law_731 : decode code 731 = .ok (.iaload, 1) := by decide +kernel
theorem d_law_732 : decode code 732 = .ok (.aload_n 0, 1) := by decide +kernel
theorem d_law_733 : decode code 733 = .ok (.iload_n 3, 1) := by decide +kernel
theorem d_law_734 : decode code 734 = .ok (.iconst 2, 1) := by decide +kernel
theorem d_law_735 : decode code 735 = .ok (.iadd, 1) := by decide +kernel
theorem d_law_736 : decode code 736 = .ok (.iaload, 1) := by decide +kernel
theorem d_law_737 : decode code 737 = .ok (.invokevirtual 92, 3) := by decide +kernel
theorem d_law_740 : decode code 740 = .ok (.if_icmp .eq 571, 3) := by decide +kernel
theorem d_law_743 : decode code 743 = .ok (.iconst 0, 1) := by decide +kernel
theorem d_law_744 : decode code 744 = .ok (.ireturn, 1) := by decide +kernel
theorem d_law_745 : decode code 745 = .ok (.aload_n 1, 1) := by decide +kernel
theorem d_law_746 : decode code 746 = .ok (.aload_n 0, 1) := by decide +kernel
theorem d_law_747 : decode code 747 = .ok (.iload_n 3, 1) := by decide +kernel
theorem d_law_748 : decode code 748 = .ok (.iconst 1, 1) := by decide +kernel
theorem d_law_749 : decode code 749 = .ok (.iadd, 1) := by decide +kernel
theorem d_law_750 : decode code 750 = .ok (.iaload, 1) := by decide +kernel
theorem d_law_751 : decode code 751 = .ok (.aload_n 0, 1) := by decide +kernel
theorem d_law_752 : decode code 752 = .ok (.iload_n 3, 1) := by decide +kernel
theorem d_law_753 : decode code 753 = .ok (.iconst 2, 1) := by decide +kernel
theorem d_law_754 : decode code 754 = .ok (.iadd, 1) := by decide +kernel
theorem d_law_755 : decode code 755 = .ok (.iaload, 1) := by decide +kernel
theorem d_law_756 : decode code 756 = .ok (.aload_n 0, 1) := by decide +kernel
theorem d_law_757 : decode code 757 = .ok (.iload_n 3, 1) := by decide +kernel
theorem d_law_758 : decode code 758 = .ok (.iconst 3, 1) := by decide +kernel
theorem d_law_759 : decode code 759 = .ok (.iadd, 1) := by decide +kernel
theorem d_law_760 : decode code 760 = .ok (.iaload, 1) := by decide +kernel
theorem d_law_761 : decode code 761 = .ok (.aload_n 0, 1) := by decide +kernel
theorem d_law_762 : decode code 762 = .ok (.iload_n 3, 1) := by decide +kernel
theorem d_law_763 : decode code 763 = .ok (.iconst 4, 1) := by decide +kernel
theorem d_law_764 : decode code 764 = .ok (.iadd, 1) := by decide +kernel
theorem d_law_765 : decode code 765 = .ok (.iaload, 1) := by decide +kernel
theorem d_law_766 : decode code 766 = .ok (.invokevirtual 93, 3) := by decide +kernel
theorem d_law_769 : decode code 769 = .ok (.aload_n 2, 1) := by decide +kernel
theorem d_law_770 : decode code 770 = .ok (.aload_n 0, 1) := by decide +kernel
theorem d_law_771 : decode code 771 = .ok (.iload_n 3, 1) := by decide +kernel
theorem d_law_772 : decode code 772 = .ok (.iconst 1, 1) := by decide +kernel
theorem d_law_773 : decode code 773 = .ok (.iadd, 1) := by decide +kernel
theorem d_law_774 : decode code 774 = .ok (.iaload, 1) := by decide +kernel
theorem d_law_775 : decode code 775 = .ok (.aload_n 0, 1) := by decide +kernel
theorem d_law_776 : decode code 776 = .ok (.iload_n 3, 1) := by decide +kernel
theorem d_law_777 : decode code 777 = .ok (.iconst 2, 1) := by decide +kernel
theorem d_law_778 : decode code 778 = .ok (.iadd, 1) := by decide +kernel
theorem d_law_779 : decode code 779 = .ok (.iaload, 1) := by decide +kernel
theorem d_law_780 : decode code 780 = .ok (.aload_n 0, 1) := by decide +kernel
theorem d_law_781 : decode code 781 = .ok (.iload_n 3, 1) := by decide +kernel
theorem d_law_782 : decode code 782 = .ok (.iconst 3, 1) := by decide +kernel
theorem d_law_783 : decode code 783 = .ok (.iadd, 1) := by decide +kernel
theorem d_law_784 : decode code 784 = .ok (.iaload, 1) := by decide +kernel
theorem d_law_785 : decode code 785 = .ok (.aload_n 0, 1) := by decide +kernel
theorem d_law_786 : decode code 786 = .ok (.iload_n 3, 1) := by decide +kernel
theorem d_law_787 : decode code 787 = .ok (.iconst 4, 1) := by decide +kernel
theorem d_law_788 : decode code 788 = .ok (.iadd, 1) := by decide +kernel
theorem d_law_789 : decode code 789 = .ok (.iaload, 1) := by decide +kernel
theorem d_law_790 : decode code 790 = .ok (.invokevirtual 97, 3) := by decide +kernel
theorem d_law_793 : decode code 793 = .ok (.lcmp, 1) := by decide +kernel
theorem d_law_794 : decode code 794 = .ok (.ifCond .eq 517, 3) := by decide +kernel
theorem d_law_797 : decode code 797 = .ok (.iconst 0, 1) := by decide +kernel
theorem d_law_798 : decode code 798 = .ok (.ireturn, 1) := by decide +kernel
theorem d_law_799 : decode code 799 = .ok (.aload_n 1, 1) := by decide +kernel
theorem d_law_800 : decode code 800 = .ok (.aload_n 0, 1) := by decide +kernel
theorem d_law_801 : decode code 801 = .ok (.iload_n 3, 1) := by decide +kernel
theorem d_law_802 : decode code 802 = .ok (.iconst 1, 1) := by decide +kernel
theorem d_law_803 : decode code 803 = .ok (.iadd, 1) := by decide +kernel
theorem d_law_804 : decode code 804 = .ok (.iaload, 1) := by decide +kernel
theorem d_law_805 : decode code 805 = .ok (.invokevirtual 98, 3) := by decide +kernel
theorem d_law_808 : decode code 808 = .ok (.aload_n 2, 1) := by decide +kernel
theorem d_law_809 : decode code 809 = .ok (.aload_n 0, 1) := by decide +kernel
theorem d_law_810 : decode code 810 = .ok (.iload_n 3, 1) := by decide +kernel
theorem d_law_811 : decode code 811 = .ok (.iconst 1, 1) := by decide +kernel
theorem d_law_812 : decode code 812 = .ok (.iadd, 1) := by decide +kernel
theorem d_law_813 : decode code 813 = .ok (.iaload, 1) := by decide +kernel
theorem d_law_814 : decode code 814 = .ok (.invokevirtual 101, 3) := by decide +kernel
theorem d_law_817 : decode code 817 = .ok (.if_icmp .eq 494, 3) := by decide +kernel
theorem d_law_820 : decode code 820 = .ok (.iconst 0, 1) := by decide +kernel
theorem d_law_821 : decode code 821 = .ok (.ireturn, 1) := by decide +kernel
theorem d_law_822 : decode code 822 = .ok (.aload_n 1, 1) := by decide +kernel
theorem d_law_823 : decode code 823 = .ok (.aload_n 0, 1) := by decide +kernel
theorem d_law_824 : decode code 824 = .ok (.iload_n 3, 1) := by decide +kernel
theorem d_law_825 : decode code 825 = .ok (.iconst 1, 1) := by decide +kernel
theorem d_law_826 : decode code 826 = .ok (.iadd, 1) := by decide +kernel
theorem d_law_827 : decode code 827 = .ok (.iaload, 1) := by decide +kernel
theorem d_law_828 : decode code 828 = .ok (.invokevirtual 102, 3) := by decide +kernel
theorem d_law_831 : decode code 831 = .ok (.aload_n 2, 1) := by decide +kernel
theorem d_law_832 : decode code 832 = .ok (.aload_n 0, 1) := by decide +kernel
theorem d_law_833 : decode code 833 = .ok (.iload_n 3, 1) := by decide +kernel
theorem d_law_834 : decode code 834 = .ok (.iconst 1, 1) := by decide +kernel
theorem d_law_835 : decode code 835 = .ok (.iadd, 1) := by decide +kernel
theorem d_law_836 : decode code 836 = .ok (.iaload, 1) := by decide +kernel
theorem d_law_837 : decode code 837 = .ok (.invokevirtual 105, 3) := by decide +kernel
theorem d_law_840 : decode code 840 = .ok (.if_icmp .eq 471, 3) := by decide +kernel
theorem d_law_843 : decode code 843 = .ok (.iconst 0, 1) := by decide +kernel
theorem d_law_844 : decode code 844 = .ok (.ireturn, 1) := by decide +kernel
theorem d_law_845 : decode code 845 = .ok (.aload_n 1, 1) := by decide +kernel
theorem d_law_846 : decode code 846 = .ok (.aload_n 0, 1) := by decide +kernel
theorem d_law_847 : decode code 847 = .ok (.iload_n 3, 1) := by decide +kernel
theorem d_law_848 : decode code 848 = .ok (.iconst 1, 1) := by decide +kernel
theorem d_law_849 : decode code 849 = .ok (.iadd, 1) := by decide +kernel
theorem d_law_850 : decode code 850 = .ok (.iaload, 1) := by decide +kernel
theorem d_law_851 : decode code 851 = .ok (.aload_n 0, 1) := by decide +kernel
theorem d_law_852 : decode code 852 = .ok (.iload_n 3, 1) := by decide +kernel
theorem d_law_853 : decode code 853 = .ok (.iconst 2, 1) := by decide +kernel
theorem d_law_854 : decode code 854 = .ok (.iadd, 1) := by decide +kernel
theorem d_law_855 : decode code 855 = .ok (.iaload, 1) := by decide +kernel
theorem d_law_856 : decode code 856 = .ok (.invokevirtual 106, 3) := by decide +kernel
theorem d_law_859 : decode code 859 = .ok (.aload_n 2, 1) := by decide +kernel
theorem d_law_860 : decode code 860 = .ok (.aload_n 0, 1) := by decide +kernel
theorem d_law_861 : decode code 861 = .ok (.iload_n 3, 1) := by decide +kernel
theorem d_law_862 : decode code 862 = .ok (.iconst 1, 1) := by decide +kernel
theorem d_law_863 : decode code 863 = .ok (.iadd, 1) := by decide +kernel
theorem d_law_864 : decode code 864 = .ok (.iaload, 1) := by decide +kernel
theorem d_law_865 : decode code 865 = .ok (.aload_n 0, 1) := by decide +kernel
theorem d_law_866 : decode code 866 = .ok (.iload_n 3, 1) := by decide +kernel
theorem d_law_867 : decode code 867 = .ok (.iconst 2, 1) := by decide +kernel
theorem d_law_868 : decode code 868 = .ok (.iadd, 1) := by decide +kernel
theorem d_law_869 : decode code 869 = .ok (.iaload, 1) := by decide +kernel
theorem d_law_870 : decode code 870 = .ok (.invokevirtual 109, 3) := by decide +kernel
theorem d_law_873 : decode code 873 = .ok (.if_icmp .eq 438, 3) := by decide +kernel
theorem d_law_876 : decode code 876 = .ok (.iconst 0, 1) := by decide +kernel
theorem d_law_877 : decode code 877 = .ok (.ireturn, 1) := by decide +kernel
theorem d_law_878 : decode code 878 = .ok (.aload_n 1, 1) := by decide +kernel
theorem d_law_879 : decode code 879 = .ok (.invokevirtual 110, 3) := by decide +kernel
theorem d_law_882 : decode code 882 = .ok (.aload_n 2, 1) := by decide +kernel
theorem d_law_883 : decode code 883 = .ok (.invokevirtual 113, 3) := by decide +kernel
theorem d_law_886 : decode code 886 = .ok (.if_icmp .eq 425, 3) := by decide +kernel
theorem d_law_889 : decode code 889 = .ok (.iconst 0, 1) := by decide +kernel
theorem d_law_890 : decode code 890 = .ok (.ireturn, 1) := by decide +kernel
theorem d_law_891 : decode code 891 = .ok (.aload_n 1, 1) := by decide +kernel
theorem d_law_892 : decode code 892 = .ok (.aload_n 0, 1) := by decide +kernel
theorem d_law_893 : decode code 893 = .ok (.iload_n 3, 1) := by decide +kernel
theorem d_law_894 : decode code 894 = .ok (.iconst 1, 1) := by decide +kernel
theorem d_law_895 : decode code 895 = .ok (.iadd, 1) := by decide +kernel
theorem d_law_896 : decode code 896 = .ok (.iaload, 1) := by decide +kernel
theorem d_law_897 : decode code 897 = .ok (.invokevirtual 114, 3) := by decide +kernel
theorem d_law_900 : decode code 900 = .ok (.aload_n 2, 1) := by decide +kernel
theorem d_law_901 : decode code 901 = .ok (.aload_n 0, 1) := by decide +kernel
theorem d_law_902 : decode code 902 = .ok (.iload_n 3, 1) := by decide +kernel
theorem d_law_903 : decode code 903 = .ok (.iconst 1, 1) := by decide +kernel
theorem d_law_904 : decode code 904 = .ok (.iadd, 1) := by decide +kernel
theorem d_law_905 : decode code 905 = .ok (.iaload, 1) := by decide +kernel
theorem d_law_906 : decode code 906 = .ok (.invokevirtual 117, 3) := by decide +kernel
theorem d_law_909 : decode code 909 = .ok (.if_icmp .eq 402, 3) := by decide +kernel
theorem d_law_912 : decode code 912 = .ok (.iconst 0, 1) := by decide +kernel
theorem d_law_913 : decode code 913 = .ok (.ireturn, 1) := by decide +kernel
theorem d_law_914 : decode code 914 = .ok (.aload_n 1, 1) := by decide +kernel
theorem d_law_915 : decode code 915 = .ok (.aload_n 0, 1) := by decide +kernel
theorem d_law_916 : decode code 916 = .ok (.iload_n 3, 1) := by decide +kernel
theorem d_law_917 : decode code 917 = .ok (.iconst 1, 1) := by decide +kernel
theorem d_law_918 : decode code 918 = .ok (.iadd, 1) := by decide +kernel
theorem d_law_919 : decode code 919 = .ok (.iaload, 1) := by decide +kernel
theorem d_law_920 : decode code 920 = .ok (.aload_n 0, 1) := by decide +kernel
theorem d_law_921 : decode code 921 = .ok (.iload_n 3, 1) := by decide +kernel
theorem d_law_922 : decode code 922 = .ok (.iconst 2, 1) := by decide +kernel
theorem d_law_923 : decode code 923 = .ok (.iadd, 1) := by decide +kernel
theorem d_law_924 : decode code 924 = .ok (.iaload, 1) := by decide +kernel
theorem d_law_925 : decode code 925 = .ok (.invokevirtual 118, 3) := by decide +kernel
theorem d_law_928 : decode code 928 = .ok (.aload_n 2, 1) := by decide +kernel
theorem d_law_929 : decode code 929 = .ok (.aload_n 0, 1) := by decide +kernel
theorem d_law_930 : decode code 930 = .ok (.iload_n 3, 1) := by decide +kernel
theorem d_law_931 : decode code 931 = .ok (.iconst 1, 1) := by decide +kernel
theorem d_law_932 : decode code 932 = .ok (.iadd, 1) := by decide +kernel
theorem d_law_933 : decode code 933 = .ok (.iaload, 1) := by decide +kernel
theorem d_law_934 : decode code 934 = .ok (.aload_n 0, 1) := by decide +kernel
theorem d_law_935 : decode code 935 = .ok (.iload_n 3, 1) := by decide +kernel
theorem d_law_936 : decode code 936 = .ok (.iconst 2, 1) := by decide +kernel
theorem d_law_937 : decode code 937 = .ok (.iadd, 1) := by decide +kernel
theorem d_law_938 : decode code 938 = .ok (.iaload, 1) := by decide +kernel
theorem d_law_939 : decode code 939 = .ok (.invokevirtual 121, 3) := by decide +kernel
theorem d_law_942 : decode code 942 = .ok (.if_icmp .eq 369, 3) := by decide +kernel
theorem d_law_945 : decode code 945 = .ok (.iconst 0, 1) := by decide +kernel
theorem d_law_946 : decode code 946 = .ok (.ireturn, 1) := by decide +kernel
theorem d_law_947 : decode code 947 = .ok (.aload_n 1, 1) := by decide +kernel
theorem d_law_948 : decode code 948 = .ok (.aload_n 0, 1) := by decide +kernel
theorem d_law_949 : decode code 949 = .ok (.iload_n 3, 1) := by decide +kernel
theorem d_law_950 : decode code 950 = .ok (.iconst 1, 1) := by decide +kernel
theorem d_law_951 : decode code 951 = .ok (.iadd, 1) := by decide +kernel
theorem d_law_952 : decode code 952 = .ok (.iaload, 1) := by decide +kernel
theorem d_law_953 : decode code 953 = .ok (.aload_n 0, 1) := by decide +kernel
theorem d_law_954 : decode code 954 = .ok (.iload_n 3, 1) := by decide +kernel
theorem d_law_955 : decode code 955 = .ok (.iconst 2, 1) := by decide +kernel
theorem d_law_956 : decode code 956 = .ok (.iadd, 1) := by decide +kernel
theorem d_law_957 : decode code 957 = .ok (.iaload, 1) := by decide +kernel
theorem d_law_958 : decode code 958 = .ok (.invokevirtual 122, 3) := by decide +kernel
theorem d_law_961 : decode code 961 = .ok (.aload_n 2, 1) := by decide +kernel
theorem d_law_962 : decode code 962 = .ok (.aload_n 0, 1) := by decide +kernel
theorem d_law_963 : decode code 963 = .ok (.iload_n 3, 1) := by decide +kernel
theorem d_law_964 : decode code 964 = .ok (.iconst 1, 1) := by decide +kernel
theorem d_law_965 : decode code 965 = .ok (.iadd, 1) := by decide +kernel
theorem d_law_966 : decode code 966 = .ok (.iaload, 1) := by decide +kernel
theorem d_law_967 : decode code 967 = .ok (.aload_n 0, 1) := by decide +kernel
theorem d_law_968 : decode code 968 = .ok (.iload_n 3, 1) := by decide +kernel
theorem d_law_969 : decode code 969 = .ok (.iconst 2, 1) := by decide +kernel
theorem d_law_970 : decode code 970 = .ok (.iadd, 1) := by decide +kernel
theorem d_law_971 : decode code 971 = .ok (.iaload, 1) := by decide +kernel
theorem d_law_972 : decode code 972 = .ok (.invokevirtual 125, 3) := by decide +kernel
theorem d_law_975 : decode code 975 = .ok (.if_icmp .eq 336, 3) := by decide +kernel
theorem d_law_978 : decode code 978 = .ok (.iconst 0, 1) := by decide +kernel
theorem d_law_979 : decode code 979 = .ok (.ireturn, 1) := by decide +kernel
theorem d_law_980 : decode code 980 = .ok (.aload_n 1, 1) := by decide +kernel
theorem d_law_981 : decode code 981 = .ok (.aload_n 0, 1) := by decide +kernel
theorem d_law_982 : decode code 982 = .ok (.iload_n 3, 1) := by decide +kernel
theorem d_law_983 : decode code 983 = .ok (.iconst 1, 1) := by decide +kernel
theorem d_law_984 : decode code 984 = .ok (.iadd, 1) := by decide +kernel
theorem d_law_985 : decode code 985 = .ok (.iaload, 1) := by decide +kernel
theorem d_law_986 : decode code 986 = .ok (.invokevirtual 126, 3) := by decide +kernel
theorem d_law_989 : decode code 989 = .ok (.aload_n 2, 1) := by decide +kernel
theorem d_law_990 : decode code 990 = .ok (.aload_n 0, 1) := by decide +kernel
theorem d_law_991 : decode code 991 = .ok (.iload_n 3, 1) := by decide +kernel
theorem d_law_992 : decode code 992 = .ok (.iconst 1, 1) := by decide +kernel
theorem d_law_993 : decode code 993 = .ok (.iadd, 1) := by decide +kernel
theorem d_law_994 : decode code 994 = .ok (.iaload, 1) := by decide +kernel
theorem d_law_995 : decode code 995 = .ok (.invokevirtual 129, 3) := by decide +kernel
theorem d_law_998 : decode code 998 = .ok (.if_icmp .eq 313, 3) := by decide +kernel
theorem d_law_1001 : decode code 1001 = .ok (.iconst 0, 1) := by decide +kernel
theorem d_law_1002 : decode code 1002 = .ok (.ireturn, 1) := by decide +kernel
theorem d_law_1003 : decode code 1003 = .ok (.aload_n 1, 1) := by decide +kernel
theorem d_law_1004 : decode code 1004 = .ok (.aload_n 0, 1) := by decide +kernel
theorem d_law_1005 : decode code 1005 = .ok (.iload_n 3, 1) := by decide +kernel
theorem d_law_1006 : decode code 1006 = .ok (.iconst 1, 1) := by decide +kernel
theorem d_law_1007 : decode code 1007 = .ok (.iadd, 1) := by decide +kernel
theorem d_law_1008 : decode code 1008 = .ok (.iaload, 1) := by decide +kernel
theorem d_law_1009 : decode code 1009 = .ok (.aload_n 0, 1) := by decide +kernel
theorem d_law_1010 : decode code 1010 = .ok (.iload_n 3, 1) := by decide +kernel
theorem d_law_1011 : decode code 1011 = .ok (.iconst 2, 1) := by decide +kernel
theorem d_law_1012 : decode code 1012 = .ok (.iadd, 1) := by decide +kernel
theorem d_law_1013 : decode code 1013 = .ok (.iaload, 1) := by decide +kernel
theorem d_law_1014 : decode code 1014 = .ok (.invokevirtual 130, 3) := by decide +kernel
theorem d_law_1017 : decode code 1017 = .ok (.aload_n 2, 1) := by decide +kernel
theorem d_law_1018 : decode code 1018 = .ok (.aload_n 0, 1) := by decide +kernel
theorem d_law_1019 : decode code 1019 = .ok (.iload_n 3, 1) := by decide +kernel
theorem d_law_1020 : decode code 1020 = .ok (.iconst 1, 1) := by decide +kernel
theorem d_law_1021 : decode code 1021 = .ok (.iadd, 1) := by decide +kernel
theorem d_law_1022 : decode code 1022 = .ok (.iaload, 1) := by decide +kernel
theorem d_law_1023 : decode code 1023 = .ok (.aload_n 0, 1) := by decide +kernel
theorem d_law_1024 : decode code 1024 = .ok (.iload_n 3, 1) := by decide +kernel
theorem d_law_1025 : decode code 1025 = .ok (.iconst 2, 1) := by decide +kernel
theorem d_law_1026 : decode code 1026 = .ok (.iadd, 1) := by decide +kernel
theorem d_law_1027 : decode code 1027 = .ok (.iaload, 1) := by decide +kernel
theorem d_law_1028 : decode code 1028 = .ok (.invokevirtual 134, 3) := by decide +kernel
theorem d_law_1031 : decode code 1031 = .ok (.lcmp, 1) := by decide +kernel
theorem d_law_1032 : decode code 1032 = .ok (.ifCond .eq 279, 3) := by decide +kernel
theorem d_law_1035 : decode code 1035 = .ok (.iconst 0, 1) := by decide +kernel
theorem d_law_1036 : decode code 1036 = .ok (.ireturn, 1) := by decide +kernel
theorem d_law_1037 : decode code 1037 = .ok (.aload_n 1, 1) := by decide +kernel
theorem d_law_1038 : decode code 1038 = .ok (.aload_n 0, 1) := by decide +kernel
theorem d_law_1039 : decode code 1039 = .ok (.iload_n 3, 1) := by decide +kernel
theorem d_law_1040 : decode code 1040 = .ok (.iconst 1, 1) := by decide +kernel
theorem d_law_1041 : decode code 1041 = .ok (.iadd, 1) := by decide +kernel
theorem d_law_1042 : decode code 1042 = .ok (.iaload, 1) := by decide +kernel
theorem d_law_1043 : decode code 1043 = .ok (.invokevirtual 135, 3) := by decide +kernel
theorem d_law_1046 : decode code 1046 = .ok (.aload_n 2, 1) := by decide +kernel
theorem d_law_1047 : decode code 1047 = .ok (.aload_n 0, 1) := by decide +kernel
theorem d_law_1048 : decode code 1048 = .ok (.iload_n 3, 1) := by decide +kernel
theorem d_law_1049 : decode code 1049 = .ok (.iconst 1, 1) := by decide +kernel
theorem d_law_1050 : decode code 1050 = .ok (.iadd, 1) := by decide +kernel
theorem d_law_1051 : decode code 1051 = .ok (.iaload, 1) := by decide +kernel
theorem d_law_1052 : decode code 1052 = .ok (.invokevirtual 139, 3) := by decide +kernel
theorem d_law_1055 : decode code 1055 = .ok (.lcmp, 1) := by decide +kernel
theorem d_law_1056 : decode code 1056 = .ok (.ifCond .eq 255, 3) := by decide +kernel
theorem d_law_1059 : decode code 1059 = .ok (.iconst 0, 1) := by decide +kernel
theorem d_law_1060 : decode code 1060 = .ok (.ireturn, 1) := by decide +kernel
theorem d_law_1061 : decode code 1061 = .ok (.aload_n 1, 1) := by decide +kernel
theorem d_law_1062 : decode code 1062 = .ok (.aload_n 0, 1) := by decide +kernel
theorem d_law_1063 : decode code 1063 = .ok (.iload_n 3, 1) := by decide +kernel
theorem d_law_1064 : decode code 1064 = .ok (.iconst 1, 1) := by decide +kernel
theorem d_law_1065 : decode code 1065 = .ok (.iadd, 1) := by decide +kernel
theorem d_law_1066 : decode code 1066 = .ok (.iaload, 1) := by decide +kernel
theorem d_law_1067 : decode code 1067 = .ok (.aload_n 0, 1) := by decide +kernel
theorem d_law_1068 : decode code 1068 = .ok (.iload_n 3, 1) := by decide +kernel
theorem d_law_1069 : decode code 1069 = .ok (.iconst 2, 1) := by decide +kernel
theorem d_law_1070 : decode code 1070 = .ok (.iadd, 1) := by decide +kernel
theorem d_law_1071 : decode code 1071 = .ok (.iaload, 1) := by decide +kernel
theorem d_law_1072 : decode code 1072 = .ok (.aload_n 0, 1) := by decide +kernel
theorem d_law_1073 : decode code 1073 = .ok (.iload_n 3, 1) := by decide +kernel
theorem d_law_1074 : decode code 1074 = .ok (.iconst 3, 1) := by decide +kernel
theorem d_law_1075 : decode code 1075 = .ok (.iadd, 1) := by decide +kernel
theorem d_law_1076 : decode code 1076 = .ok (.iaload, 1) := by decide +kernel
theorem d_law_1077 : decode code 1077 = .ok (.invokevirtual 140, 3) := by decide +kernel
theorem d_law_1080 : decode code 1080 = .ok (.aload_n 2, 1) := by decide +kernel
theorem d_law_1081 : decode code 1081 = .ok (.aload_n 0, 1) := by decide +kernel
theorem d_law_1082 : decode code 1082 = .ok (.iload_n 3, 1) := by decide +kernel
theorem d_law_1083 : decode code 1083 = .ok (.iconst 1, 1) := by decide +kernel
theorem d_law_1084 : decode code 1084 = .ok (.iadd, 1) := by decide +kernel
theorem d_law_1085 : decode code 1085 = .ok (.iaload, 1) := by decide +kernel
theorem d_law_1086 : decode code 1086 = .ok (.aload_n 0, 1) := by decide +kernel
theorem d_law_1087 : decode code 1087 = .ok (.iload_n 3, 1) := by decide +kernel
theorem d_law_1088 : decode code 1088 = .ok (.iconst 2, 1) := by decide +kernel
theorem d_law_1089 : decode code 1089 = .ok (.iadd, 1) := by decide +kernel
theorem d_law_1090 : decode code 1090 = .ok (.iaload, 1) := by decide +kernel
theorem d_law_1091 : decode code 1091 = .ok (.aload_n 0, 1) := by decide +kernel
theorem d_law_1092 : decode code 1092 = .ok (.iload_n 3, 1) := by decide +kernel
theorem d_law_1093 : decode code 1093 = .ok (.iconst 3, 1) := by decide +kernel
theorem d_law_1094 : decode code 1094 = .ok (.iadd, 1) := by decide +kernel
theorem d_law_1095 : decode code 1095 = .ok (.iaload, 1) := by decide +kernel
theorem d_law_1096 : decode code 1096 = .ok (.invokevirtual 143, 3) := by decide +kernel
theorem d_law_1099 : decode code 1099 = .ok (.if_icmp .eq 212, 3) := by decide +kernel
theorem d_law_1102 : decode code 1102 = .ok (.iconst 0, 1) := by decide +kernel
theorem d_law_1103 : decode code 1103 = .ok (.ireturn, 1) := by decide +kernel
theorem d_law_1104 : decode code 1104 = .ok (.aload_n 1, 1) := by decide +kernel
theorem d_law_1105 : decode code 1105 = .ok (.invokevirtual 144, 3) := by decide +kernel
theorem d_law_1108 : decode code 1108 = .ok (.aload_n 2, 1) := by decide +kernel
theorem d_law_1109 : decode code 1109 = .ok (.invokevirtual 147, 3) := by decide +kernel
theorem d_law_1112 : decode code 1112 = .ok (.if_icmp .eq 199, 3) := by decide +kernel
theorem d_law_1115 : decode code 1115 = .ok (.iconst 0, 1) := by decide +kernel
theorem d_law_1116 : decode code 1116 = .ok (.ireturn, 1) := by decide +kernel
theorem d_law_1117 : decode code 1117 = .ok (.aload_n 1, 1) := by decide +kernel
theorem d_law_1118 : decode code 1118 = .ok (.aload_n 0, 1) := by decide +kernel
theorem d_law_1119 : decode code 1119 = .ok (.iload_n 3, 1) := by decide +kernel
theorem d_law_1120 : decode code 1120 = .ok (.iconst 1, 1) := by decide +kernel
theorem d_law_1121 : decode code 1121 = .ok (.iadd, 1) := by decide +kernel
theorem d_law_1122 : decode code 1122 = .ok (.iaload, 1) := by decide +kernel
theorem d_law_1123 : decode code 1123 = .ok (.aload_n 0, 1) := by decide +kernel
theorem d_law_1124 : decode code 1124 = .ok (.iload_n 3, 1) := by decide +kernel
theorem d_law_1125 : decode code 1125 = .ok (.iconst 2, 1) := by decide +kernel
theorem d_law_1126 : decode code 1126 = .ok (.iadd, 1) := by decide +kernel
theorem d_law_1127 : decode code 1127 = .ok (.iaload, 1) := by decide +kernel
theorem d_law_1128 : decode code 1128 = .ok (.invokevirtual 148, 3) := by decide +kernel
theorem d_law_1131 : decode code 1131 = .ok (.aload_n 2, 1) := by decide +kernel
theorem d_law_1132 : decode code 1132 = .ok (.aload_n 0, 1) := by decide +kernel
theorem d_law_1133 : decode code 1133 = .ok (.iload_n 3, 1) := by decide +kernel
theorem d_law_1134 : decode code 1134 = .ok (.iconst 1, 1) := by decide +kernel
theorem d_law_1135 : decode code 1135 = .ok (.iadd, 1) := by decide +kernel
theorem d_law_1136 : decode code 1136 = .ok (.iaload, 1) := by decide +kernel
theorem d_law_1137 : decode code 1137 = .ok (.aload_n 0, 1) := by decide +kernel
theorem d_law_1138 : decode code 1138 = .ok (.iload_n 3, 1) := by decide +kernel
theorem d_law_1139 : decode code 1139 = .ok (.iconst 2, 1) := by decide +kernel
theorem d_law_1140 : decode code 1140 = .ok (.iadd, 1) := by decide +kernel
theorem d_law_1141 : decode code 1141 = .ok (.iaload, 1) := by decide +kernel
theorem d_law_1142 : decode code 1142 = .ok (.invokevirtual 151, 3) := by decide +kernel
theorem d_law_1145 : decode code 1145 = .ok (.if_icmp .eq 166, 3) := by decide +kernel
theorem d_law_1148 : decode code 1148 = .ok (.iconst 0, 1) := by decide +kernel
theorem d_law_1149 : decode code 1149 = .ok (.ireturn, 1) := by decide +kernel
theorem d_law_1150 : decode code 1150 = .ok (.aload_n 1, 1) := by decide +kernel
theorem d_law_1151 : decode code 1151 = .ok (.invokevirtual 152, 3) := by decide +kernel
theorem d_law_1154 : decode code 1154 = .ok (.aload_n 2, 1) := by decide +kernel
theorem d_law_1155 : decode code 1155 = .ok (.invokevirtual 155, 3) := by decide +kernel
theorem d_law_1158 : decode code 1158 = .ok (.if_icmp .eq 153, 3) := by decide +kernel
theorem d_law_1161 : decode code 1161 = .ok (.iconst 0, 1) := by decide +kernel
theorem d_law_1162 : decode code 1162 = .ok (.ireturn, 1) := by decide +kernel
theorem d_law_1163 : decode code 1163 = .ok (.aload_n 1, 1) := by decide +kernel
theorem d_law_1164 : decode code 1164 = .ok (.aload_n 0, 1) := by decide +kernel
theorem d_law_1165 : decode code 1165 = .ok (.iload_n 3, 1) := by decide +kernel
theorem d_law_1166 : decode code 1166 = .ok (.iconst 1, 1) := by decide +kernel
theorem d_law_1167 : decode code 1167 = .ok (.iadd, 1) := by decide +kernel
theorem d_law_1168 : decode code 1168 = .ok (.iaload, 1) := by decide +kernel
theorem d_law_1169 : decode code 1169 = .ok (.aload_n 0, 1) := by decide +kernel
theorem d_law_1170 : decode code 1170 = .ok (.iload_n 3, 1) := by decide +kernel
theorem d_law_1171 : decode code 1171 = .ok (.iconst 2, 1) := by decide +kernel
theorem d_law_1172 : decode code 1172 = .ok (.iadd, 1) := by decide +kernel
theorem d_law_1173 : decode code 1173 = .ok (.iaload, 1) := by decide +kernel
theorem d_law_1174 : decode code 1174 = .ok (.aload_n 0, 1) := by decide +kernel
theorem d_law_1175 : decode code 1175 = .ok (.iload_n 3, 1) := by decide +kernel
theorem d_law_1176 : decode code 1176 = .ok (.iconst 3, 1) := by decide +kernel
theorem d_law_1177 : decode code 1177 = .ok (.iadd, 1) := by decide +kernel
theorem d_law_1178 : decode code 1178 = .ok (.iaload, 1) := by decide +kernel
theorem d_law_1179 : decode code 1179 = .ok (.invokevirtual 156, 3) := by decide +kernel
theorem d_law_1182 : decode code 1182 = .ok (.aload_n 2, 1) := by decide +kernel
theorem d_law_1183 : decode code 1183 = .ok (.aload_n 0, 1) := by decide +kernel
theorem d_law_1184 : decode code 1184 = .ok (.iload_n 3, 1) := by decide +kernel
theorem d_law_1185 : decode code 1185 = .ok (.iconst 1, 1) := by decide +kernel
theorem d_law_1186 : decode code 1186 = .ok (.iadd, 1) := by decide +kernel
theorem d_law_1187 : decode code 1187 = .ok (.iaload, 1) := by decide +kernel
theorem d_law_1188 : decode code 1188 = .ok (.aload_n 0, 1) := by decide +kernel
theorem d_law_1189 : decode code 1189 = .ok (.iload_n 3, 1) := by decide +kernel
theorem d_law_1190 : decode code 1190 = .ok (.iconst 2, 1) := by decide +kernel
theorem d_law_1191 : decode code 1191 = .ok (.iadd, 1) := by decide +kernel
theorem d_law_1192 : decode code 1192 = .ok (.iaload, 1) := by decide +kernel
theorem d_law_1193 : decode code 1193 = .ok (.aload_n 0, 1) := by decide +kernel
theorem d_law_1194 : decode code 1194 = .ok (.iload_n 3, 1) := by decide +kernel
theorem d_law_1195 : decode code 1195 = .ok (.iconst 3, 1) := by decide +kernel
theorem d_law_1196 : decode code 1196 = .ok (.iadd, 1) := by decide +kernel
theorem d_law_1197 : decode code 1197 = .ok (.iaload, 1) := by decide +kernel
theorem d_law_1198 : decode code 1198 = .ok (.invokevirtual 159, 3) := by decide +kernel
theorem d_law_1201 : decode code 1201 = .ok (.if_icmp .eq 110, 3) := by decide +kernel
theorem d_law_1204 : decode code 1204 = .ok (.iconst 0, 1) := by decide +kernel
theorem d_law_1205 : decode code 1205 = .ok (.ireturn, 1) := by decide +kernel
theorem d_law_1206 : decode code 1206 = .ok (.aload_n 1, 1) := by decide +kernel
theorem d_law_1207 : decode code 1207 = .ok (.aload_n 0, 1) := by decide +kernel
theorem d_law_1208 : decode code 1208 = .ok (.iload_n 3, 1) := by decide +kernel
theorem d_law_1209 : decode code 1209 = .ok (.iconst 1, 1) := by decide +kernel
theorem d_law_1210 : decode code 1210 = .ok (.iadd, 1) := by decide +kernel
theorem d_law_1211 : decode code 1211 = .ok (.iaload, 1) := by decide +kernel
theorem d_law_1212 : decode code 1212 = .ok (.invokevirtual 160, 3) := by decide +kernel
theorem d_law_1215 : decode code 1215 = .ok (.aload_n 2, 1) := by decide +kernel
theorem d_law_1216 : decode code 1216 = .ok (.aload_n 0, 1) := by decide +kernel
theorem d_law_1217 : decode code 1217 = .ok (.iload_n 3, 1) := by decide +kernel
theorem d_law_1218 : decode code 1218 = .ok (.iconst 1, 1) := by decide +kernel
theorem d_law_1219 : decode code 1219 = .ok (.iadd, 1) := by decide +kernel
theorem d_law_1220 : decode code 1220 = .ok (.iaload, 1) := by decide +kernel
theorem d_law_1221 : decode code 1221 = .ok (.invokevirtual 163, 3) := by decide +kernel
theorem d_law_1224 : decode code 1224 = .ok (.if_icmp .eq 87, 3) := by decide +kernel
theorem d_law_1227 : decode code 1227 = .ok (.iconst 0, 1) := by decide +kernel
theorem d_law_1228 : decode code 1228 = .ok (.ireturn, 1) := by decide +kernel
theorem d_law_1229 : decode code 1229 = .ok (.aload_n 1, 1) := by decide +kernel
theorem d_law_1230 : decode code 1230 = .ok (.aload_n 0, 1) := by decide +kernel
theorem d_law_1231 : decode code 1231 = .ok (.iload_n 3, 1) := by decide +kernel
theorem d_law_1232 : decode code 1232 = .ok (.iconst 1, 1) := by decide +kernel
theorem d_law_1233 : decode code 1233 = .ok (.iadd, 1) := by decide +kernel
theorem d_law_1234 : decode code 1234 = .ok (.iaload, 1) := by decide +kernel
theorem d_law_1235 : decode code 1235 = .ok (.aload_n 0, 1) := by decide +kernel
theorem d_law_1236 : decode code 1236 = .ok (.iload_n 3, 1) := by decide +kernel
theorem d_law_1237 : decode code 1237 = .ok (.iconst 2, 1) := by decide +kernel
theorem d_law_1238 : decode code 1238 = .ok (.iadd, 1) := by decide +kernel
theorem d_law_1239 : decode code 1239 = .ok (.iaload, 1) := by decide +kernel
theorem d_law_1240 : decode code 1240 = .ok (.invokevirtual 164, 3) := by decide +kernel
theorem d_law_1243 : decode code 1243 = .ok (.aload_n 2, 1) := by decide +kernel
theorem d_law_1244 : decode code 1244 = .ok (.aload_n 0, 1) := by decide +kernel
theorem d_law_1245 : decode code 1245 = .ok (.iload_n 3, 1) := by decide +kernel
theorem d_law_1246 : decode code 1246 = .ok (.iconst 1, 1) := by decide +kernel
theorem d_law_1247 : decode code 1247 = .ok (.iadd, 1) := by decide +kernel
theorem d_law_1248 : decode code 1248 = .ok (.iaload, 1) := by decide +kernel
theorem d_law_1249 : decode code 1249 = .ok (.aload_n 0, 1) := by decide +kernel
theorem d_law_1250 : decode code 1250 = .ok (.iload_n 3, 1) := by decide +kernel
theorem d_law_1251 : decode code 1251 = .ok (.iconst 2, 1) := by decide +kernel
theorem d_law_1252 : decode code 1252 = .ok (.iadd, 1) := by decide +kernel
theorem d_law_1253 : decode code 1253 = .ok (.iaload, 1) := by decide +kernel
theorem d_law_1254 : decode code 1254 = .ok (.invokevirtual 167, 3) := by decide +kernel
theorem d_law_1257 : decode code 1257 = .ok (.if_icmp .eq 54, 3) := by decide +kernel
theorem d_law_1260 : decode code 1260 = .ok (.iconst 0, 1) := by decide +kernel
theorem d_law_1261 : decode code 1261 = .ok (.ireturn, 1) := by decide +kernel
theorem d_law_1262 : decode code 1262 = .ok (.aload_n 1, 1) := by decide +kernel
theorem d_law_1263 : decode code 1263 = .ok (.invokevirtual 168, 3) := by decide +kernel
theorem d_law_1266 : decode code 1266 = .ok (.aload_n 2, 1) := by decide +kernel
theorem d_law_1267 : decode code 1267 = .ok (.invokevirtual 171, 3) := by decide +kernel
theorem d_law_1270 : decode code 1270 = .ok (.if_icmp .eq 41, 3) := by decide +kernel
theorem d_law_1273 : decode code 1273 = .ok (.iconst 0, 1) := by decide +kernel
theorem d_law_1274 : decode code 1274 = .ok (.ireturn, 1) := by decide +kernel
theorem d_law_1275 : decode code 1275 = .ok (.aload_n 1, 1) := by decide +kernel
theorem d_law_1276 : decode code 1276 = .ok (.invokevirtual 172, 3) := by decide +kernel
theorem d_law_1279 : decode code 1279 = .ok (.aload_n 2, 1) := by decide +kernel
theorem d_law_1280 : decode code 1280 = .ok (.invokevirtual 175, 3) := by decide +kernel
theorem d_law_1283 : decode code 1283 = .ok (.if_icmp .eq 28, 3) := by decide +kernel
theorem d_law_1286 : decode code 1286 = .ok (.iconst 0, 1) := by decide +kernel
theorem d_law_1287 : decode code 1287 = .ok (.ireturn, 1) := by decide +kernel
theorem d_law_1288 : decode code 1288 = .ok (.aload_n 1, 1) := by decide +kernel
theorem d_law_1289 : decode code 1289 = .ok (.aload_n 0, 1) := by decide +kernel
theorem d_law_1290 : decode code 1290 = .ok (.iload_n 3, 1) := by decide +kernel
theorem d_law_1291 : decode code 1291 = .ok (.iconst 1, 1) := by decide +kernel
theorem d_law_1292 : decode code 1292 = .ok (.iadd, 1) := by decide +kernel
theorem d_law_1293 : decode code 1293 = .ok (.iaload, 1) := by decide +kernel
theorem d_law_1294 : decode code 1294 = .ok (.invokevirtual 176, 3) := by decide +kernel
theorem d_law_1297 : decode code 1297 = .ok (.aload_n 2, 1) := by decide +kernel
theorem d_law_1298 : decode code 1298 = .ok (.aload_n 0, 1) := by decide +kernel
theorem d_law_1299 : decode code 1299 = .ok (.iload_n 3, 1) := by decide +kernel
theorem d_law_1300 : decode code 1300 = .ok (.iconst 1, 1) := by decide +kernel
theorem d_law_1301 : decode code 1301 = .ok (.iadd, 1) := by decide +kernel
theorem d_law_1302 : decode code 1302 = .ok (.iaload, 1) := by decide +kernel
theorem d_law_1303 : decode code 1303 = .ok (.invokevirtual 179, 3) := by decide +kernel
theorem d_law_1306 : decode code 1306 = .ok (.if_icmp .eq 5, 3) := by decide +kernel
theorem d_law_1309 : decode code 1309 = .ok (.iconst 0, 1) := by decide +kernel
theorem d_law_1310 : decode code 1310 = .ok (.ireturn, 1) := by decide +kernel
theorem d_law_1311 : decode code 1311 = .ok (.iinc 3 5, 3) := by decide +kernel
theorem d_law_1314 : decode code 1314 = .ok (.goto (-1296), 3) := by decide +kernel
theorem d_law_1317 : decode code 1317 = .ok (.iconst 1, 1) := by decide +kernel
theorem d_law_1318 : decode code 1318 = .ok (.ireturn, 1) := by decide +kernel
def L_law_1 (X : WX) : ST := (sSw (xand (xsld X (xr 0) (xi 3)) (xc 63)) [(0, (sIf (cNot (cEq (kI (kV X M_FC_feed 1000 0 (xr 1) (aC (vI (xsld X (xr 0) (xadd (xi 3) (xc 1)))) aN))) (kI (kV X M_Mod_feed 1000 12 (xr 2) (aC (vI (xsld X (xr 0) (xadd (xi 3) (xc 1)))) aN))))) (sRetZ (xc 0)) sBrk)), (1, (sIf (cNot (cEq (kI (kVA X room_1 M_FC_house 1000 6 137 0 (xr 1) aN)) (kI (kV X M_Mod_house 1000 12 (xr 2) aN)))) (sRetZ (xc 0)) sBrk)), (2, (sIf (cNot (cEq (kI (kVA X room_1 M_FC_person 1000 2 144 0 (xr 1) (aC (vI (xsld X (xr 0) (xadd (xi 3) (xc 1)))) (aC (vI (xsld X (xr 0) (xadd (xi 3) (xc 2)))) aN)))) (kI (kV X M_Mod_person 1000 12 (xr 2) (aC (vI (xsld X (xr 0) (xadd (xi 3) (xc 1)))) (aC (vI (xsld X (xr 0) (xadd (xi 3) (xc 2)))) aN)))))) (sRetZ (xc 0)) sBrk)), (3, (sIf (cNot (cEq (kI (kV X M_FC_of 1000 0 (xr 1) (aC (vI (xsld X (xr 0) (xadd (xi 3) (xc 1)))) (aC (vI (xsld X (xr 0) (xadd (xi 3) (xc 2)))) aN)))) (kI (kV X M_Mod_of 1000 12 (xr 2) (aC (vI (xsld X (xr 0) (xadd (xi 3) (xc 1)))) (aC (vI (xsld X (xr 0) (xadd (xi 3) (xc 2)))) aN)))))) (sRetZ (xc 0)) sBrk)), (4, (sIf (cNot (cEq (kI (kV X M_FC_use 1000 0 (xr 1) (aC (vI (xsld X (xr 0) (xadd (xi 3) (xc 1)))) (aC (vI (xsld X (xr 0) (xadd (xi 3) (xc 2)))) aN)))) (kI (kV X M_Mod_use 1000 12 (xr 2) (aC (vI (xsld X (xr 0) (xadd (xi 3) (xc 1)))) (aC (vI (xsld X (xr 0) (xadd (xi 3) (xc 2)))) aN)))))) (sRetZ (xc 0)) sBrk)), (5, (sIf (cNot (cEq (kI (kV X M_FC_believe 1000 0 (xr 1) (aC (vI (xsld X (xr 0) (xadd (xi 3) (xc 1)))) (aC (vI (xsld X (xr 0) (xadd (xi 3) (xc 2)))) aN)))) (kI (kV X M_Mod_believe 1000 12 (xr 2) (aC (vI (xsld X (xr 0) (xadd (xi 3) (xc 1)))) (aC (vI (xsld X (xr 0) (xadd (xi 3) (xc 2)))) aN)))))) (sRetZ (xc 0)) sBrk)), (6, (sIf (cNot (cEq (kI (kV X M_FC_row 1000 0 (xr 1) (aC (vI (xsld X (xr 0) (xadd (xi 3) (xc 1)))) (aC (vI (xsld X (xr 0) (xadd (xi 3) (xc 2)))) (aC (vI (xsld X (xr 0) (xadd (xi 3) (xc 3)))) aN))))) (kI (kV X M_Mod_row 1000 12 (xr 2) (aC (vI (xsld X (xr 0) (xadd (xi 3) (xc 1)))) (aC (vI (xsld X (xr 0) (xadd (xi 3) (xc 2)))) (aC (vI (xsld X (xr 0) (xadd (xi 3) (xc 3)))) aN))))))) (sRetZ (xc 0)) sBrk)), (7, (sIf (cNot (cEq (kI (kV X M_FC_set 1000 0 (xr 1) (aC (vI (xsld X (xr 0) (xadd (xi 3) (xc 1)))) (aC (vI (xsld X (xr 0) (xadd (xi 3) (xc 2)))) aN)))) (kI (kV X M_Mod_set 1000 12 (xr 2) (aC (vI (xsld X (xr 0) (xadd (xi 3) (xc 1)))) (aC (vI (xsld X (xr 0) (xadd (xi 3) (xc 2)))) aN)))))) (sRetZ (xc 0)) sBrk)), (8, (sIf (cNot (cEq (kI (kV X M_FC_hear 1000 0 (xr 1) (aC (vI (xsld X (xr 0) (xadd (xi 3) (xc 1)))) aN))) (kI (kV X M_Mod_hear 1000 12 (xr 2) (aC (vI (xsld X (xr 0) (xadd (xi 3) (xc 1)))) aN))))) (sRetZ (xc 0)) sBrk)), (9, (sIf (cNot (cEq (kI (kV X M_FC_tell 1000 0 (xr 1) (aC (vI (xsld X (xr 0) (xadd (xi 3) (xc 1)))) (aC (vI (xsld X (xr 0) (xadd (xi 3) (xc 2)))) aN)))) (kI (kV X M_Mod_tell 1000 12 (xr 2) (aC (vI (xsld X (xr 0) (xadd (xi 3) (xc 1)))) (aC (vI (xsld X (xr 0) (xadd (xi 3) (xc 2)))) aN)))))) (sRetZ (xc 0)) sBrk)), (10, (sIf (cNot (cEq (kI (kV X M_FC_told 1000 0 (xr 1) (aC (vI (xsld X (xr 0) (xadd (xi 3) (xc 1)))) aN))) (kI (kV X M_Mod_told 1000 12 (xr 2) (aC (vI (xsld X (xr 0) (xadd (xi 3) (xc 1)))) aN))))) (sRetZ (xc 0)) sBrk)), (11, (sIf (cNot (cEq (kI (kV X M_FC_day 1000 0 (xr 1) aN)) (kI (kV X M_Mod_day 1000 12 (xr 2) aN)))) (sRetZ (xc 0)) sBrk)), (12, (sIf (cNot (cEq (kI (kV X M_FC_on 1000 0 (xr 1) (aC (vI (xsld X (xr 0) (xadd (xi 3) (xc 1)))) (aC (vI (xsld X (xr 0) (xadd (xi 3) (xc 2)))) aN)))) (kI (kV X M_Mod_on 1000 12 (xr 2) (aC (vI (xsld X (xr 0) (xadd (xi 3) (xc 1)))) (aC (vI (xsld X (xr 0) (xadd (xi 3) (xc 2)))) aN)))))) (sRetZ (xc 0)) sBrk)), (13, (sIf (cNot (cEq (kI (kV X M_FC_inTime 1000 0 (xr 1) aN)) (kI (kV X M_Mod_inTime 1000 12 (xr 2) aN)))) (sRetZ (xc 0)) sBrk)), (14, (sIf (cNot (cEq (kI (kV X M_FC_worst 1000 0 (xr 1) aN)) (kI (kV X M_Mod_worst 1000 12 (xr 2) aN)))) (sRetZ (xc 0)) sBrk)), (15, (sIf (cNot (cEq (kI (kV X M_FC_order 1000 0 (xr 1) (aC (vI (xsld X (xr 0) (xadd (xi 3) (xc 1)))) aN))) (kI (kV X M_Mod_order 1000 12 (xr 2) (aC (vI (xsld X (xr 0) (xadd (xi 3) (xc 1)))) aN))))) (sRetZ (xc 0)) sBrk)), (16, (sIf (cNot (cEq (kI (kV X M_FC_best 1000 0 (xr 1) (aC (vI (xsld X (xr 0) (xadd (xi 3) (xc 1)))) (aC (vI (xsld X (xr 0) (xadd (xi 3) (xc 2)))) (aC (vI (xsld X (xr 0) (xadd (xi 3) (xc 3)))) aN))))) (kI (kV X M_Mod_best 1000 12 (xr 2) (aC (vI (xsld X (xr 0) (xadd (xi 3) (xc 1)))) (aC (vI (xsld X (xr 0) (xadd (xi 3) (xc 2)))) (aC (vI (xsld X (xr 0) (xadd (xi 3) (xc 3)))) aN))))))) (sRetZ (xc 0)) sBrk)), (17, (sIf (cNot (cEq (kI (kV X M_FC_rowOf 1000 0 (xr 1) (aC (vI (xsld X (xr 0) (xadd (xi 3) (xc 1)))) (aC (vI (xsld X (xr 0) (xadd (xi 3) (xc 2)))) (aC (vI (xsld X (xr 0) (xadd (xi 3) (xc 3)))) aN))))) (kI (kV X M_Mod_rowOf 1000 12 (xr 2) (aC (vI (xsld X (xr 0) (xadd (xi 3) (xc 1)))) (aC (vI (xsld X (xr 0) (xadd (xi 3) (xc 2)))) (aC (vI (xsld X (xr 0) (xadd (xi 3) (xc 3)))) aN))))))) (sRetZ (xc 0)) sBrk)), (18, (sIf (cNot (cEq (kI (kV X M_FC_lasts 1000 0 (xr 1) (aC (vI (xsld X (xr 0) (xadd (xi 3) (xc 1)))) (aC (vI (xsld X (xr 0) (xadd (xi 3) (xc 2)))) aN)))) (kI (kV X M_Mod_lasts 1000 12 (xr 2) (aC (vI (xsld X (xr 0) (xadd (xi 3) (xc 1)))) (aC (vI (xsld X (xr 0) (xadd (xi 3) (xc 2)))) aN)))))) (sRetZ (xc 0)) sBrk)), (19, (sIf (cNot (cEqL (kL (kV X M_FC_mixed 1000 0 (xr 1) (aC (vI (xsld X (xr 0) (xadd (xi 3) (xc 1)))) (aC (vI (xsld X (xr 0) (xadd (xi 3) (xc 2)))) (aC (vI (xsld X (xr 0) (xadd (xi 3) (xc 3)))) (aC (vI (xsld X (xr 0) (xadd (xi 3) (xc 4)))) aN)))))) (kL (kV X M_Mod_mixed 1000 12 (xr 2) (aC (vI (xsld X (xr 0) (xadd (xi 3) (xc 1)))) (aC (vI (xsld X (xr 0) (xadd (xi 3) (xc 2)))) (aC (vI (xsld X (xr 0) (xadd (xi 3) (xc 3)))) (aC (vI (xsld X (xr 0) (xadd (xi 3) (xc 4)))) aN)))))))) (sRetZ (xc 0)) sBrk)), (20, (sIf (cNot (cEq (kI (kV X M_FC_goBy 1000 0 (xr 1) (aC (vI (xsld X (xr 0) (xadd (xi 3) (xc 1)))) aN))) (kI (kV X M_Mod_goBy 1000 12 (xr 2) (aC (vI (xsld X (xr 0) (xadd (xi 3) (xc 1)))) aN))))) (sRetZ (xc 0)) sBrk)), (21, (sIf (cNot (cEq (kI (kV X M_FC_call 1000 0 (xr 1) (aC (vI (xsld X (xr 0) (xadd (xi 3) (xc 1)))) aN))) (kI (kV X M_Mod_call 1000 12 (xr 2) (aC (vI (xsld X (xr 0) (xadd (xi 3) (xc 1)))) aN))))) (sRetZ (xc 0)) sBrk)), (22, (sIf (cNot (cEq (kI (kV X M_FC_padded 1000 0 (xr 1) (aC (vI (xsld X (xr 0) (xadd (xi 3) (xc 1)))) (aC (vI (xsld X (xr 0) (xadd (xi 3) (xc 2)))) aN)))) (kI (kV X M_Mod_padded 1000 12 (xr 2) (aC (vI (xsld X (xr 0) (xadd (xi 3) (xc 1)))) (aC (vI (xsld X (xr 0) (xadd (xi 3) (xc 2)))) aN)))))) (sRetZ (xc 0)) sBrk)), (23, (sIf (cNot (cEq (kI (kV X M_FC_tellOne 1000 0 (xr 1) aN)) (kI (kV X M_Mod_tellOne 1000 12 (xr 2) aN)))) (sRetZ (xc 0)) sBrk)), (24, (sIf (cNot (cEq (kI (kV X M_FC_known 1000 0 (xr 1) (aC (vI (xsld X (xr 0) (xadd (xi 3) (xc 1)))) aN))) (kI (kV X M_Mod_known 1000 12 (xr 2) (aC (vI (xsld X (xr 0) (xadd (xi 3) (xc 1)))) aN))))) (sRetZ (xc 0)) sBrk)), (25, (sIf (cNot (cEq (kI (kV X M_FC_see 1000 0 (xr 1) (aC (vI (xsld X (xr 0) (xadd (xi 3) (xc 1)))) (aC (vI (xsld X (xr 0) (xadd (xi 3) (xc 2)))) aN)))) (kI (kV X M_Mod_see 1000 12 (xr 2) (aC (vI (xsld X (xr 0) (xadd (xi 3) (xc 1)))) (aC (vI (xsld X (xr 0) (xadd (xi 3) (xc 2)))) aN)))))) (sRetZ (xc 0)) sBrk)), (26, (sIf (cNot (cEq (kI (kV X M_FC_fast 1000 0 (xr 1) (aC (vI (xsld X (xr 0) (xadd (xi 3) (xc 1)))) (aC (vI (xsld X (xr 0) (xadd (xi 3) (xc 2)))) aN)))) (kI (kV X M_Mod_fast 1000 12 (xr 2) (aC (vI (xsld X (xr 0) (xadd (xi 3) (xc 1)))) (aC (vI (xsld X (xr 0) (xadd (xi 3) (xc 2)))) aN)))))) (sRetZ (xc 0)) sBrk)), (27, (sIf (cNot (cEq (kI (kV X M_FC_who 1000 0 (xr 1) (aC (vI (xsld X (xr 0) (xadd (xi 3) (xc 1)))) aN))) (kI (kV X M_Mod_who 1000 12 (xr 2) (aC (vI (xsld X (xr 0) (xadd (xi 3) (xc 1)))) aN))))) (sRetZ (xc 0)) sBrk)), (28, (sIf (cNot (cEqL (kL (kV X M_FC_odds 1000 0 (xr 1) (aC (vI (xsld X (xr 0) (xadd (xi 3) (xc 1)))) (aC (vI (xsld X (xr 0) (xadd (xi 3) (xc 2)))) aN)))) (kL (kV X M_Mod_odds 1000 12 (xr 2) (aC (vI (xsld X (xr 0) (xadd (xi 3) (xc 1)))) (aC (vI (xsld X (xr 0) (xadd (xi 3) (xc 2)))) aN)))))) (sRetZ (xc 0)) sBrk)), (29, (sIf (cNot (cEqL (kL (kV X M_FC_mean 1000 0 (xr 1) (aC (vI (xsld X (xr 0) (xadd (xi 3) (xc 1)))) aN))) (kL (kV X M_Mod_mean 1000 12 (xr 2) (aC (vI (xsld X (xr 0) (xadd (xi 3) (xc 1)))) aN))))) (sRetZ (xc 0)) sBrk)), (30, (sIf (cNot (cEq (kI (kV X M_FC_rule 1000 0 (xr 1) (aC (vI (xsld X (xr 0) (xadd (xi 3) (xc 1)))) (aC (vI (xsld X (xr 0) (xadd (xi 3) (xc 2)))) (aC (vI (xsld X (xr 0) (xadd (xi 3) (xc 3)))) aN))))) (kI (kV X M_Mod_rule 1000 12 (xr 2) (aC (vI (xsld X (xr 0) (xadd (xi 3) (xc 1)))) (aC (vI (xsld X (xr 0) (xadd (xi 3) (xc 2)))) (aC (vI (xsld X (xr 0) (xadd (xi 3) (xc 3)))) aN))))))) (sRetZ (xc 0)) sBrk)), (31, (sIf (cNot (cEq (kI (kV X M_FC_ruled 1000 0 (xr 1) aN)) (kI (kV X M_Mod_ruled 1000 12 (xr 2) aN)))) (sRetZ (xc 0)) sBrk)), (32, (sIf (cNot (cEq (kI (kV X M_FC_book 1000 0 (xr 1) (aC (vI (xsld X (xr 0) (xadd (xi 3) (xc 1)))) (aC (vI (xsld X (xr 0) (xadd (xi 3) (xc 2)))) aN)))) (kI (kV X M_Mod_book 1000 12 (xr 2) (aC (vI (xsld X (xr 0) (xadd (xi 3) (xc 1)))) (aC (vI (xsld X (xr 0) (xadd (xi 3) (xc 2)))) aN)))))) (sRetZ (xc 0)) sBrk)), (33, (sIf (cNot (cEq (kI (kV X M_FC_looked 1000 0 (xr 1) aN)) (kI (kV X M_Mod_looked 1000 12 (xr 2) aN)))) (sRetZ (xc 0)) sBrk)), (34, (sIf (cNot (cEq (kI (kV X M_FC_act 1000 0 (xr 1) (aC (vI (xsld X (xr 0) (xadd (xi 3) (xc 1)))) (aC (vI (xsld X (xr 0) (xadd (xi 3) (xc 2)))) (aC (vI (xsld X (xr 0) (xadd (xi 3) (xc 3)))) aN))))) (kI (kV X M_Mod_act 1000 12 (xr 2) (aC (vI (xsld X (xr 0) (xadd (xi 3) (xc 1)))) (aC (vI (xsld X (xr 0) (xadd (xi 3) (xc 2)))) (aC (vI (xsld X (xr 0) (xadd (xi 3) (xc 3)))) aN))))))) (sRetZ (xc 0)) sBrk)), (35, (sIf (cNot (cEq (kI (kV X M_FC_trace 1000 0 (xr 1) (aC (vI (xsld X (xr 0) (xadd (xi 3) (xc 1)))) aN))) (kI (kV X M_Mod_trace 1000 12 (xr 2) (aC (vI (xsld X (xr 0) (xadd (xi 3) (xc 1)))) aN))))) (sRetZ (xc 0)) sBrk)), (36, (sIf (cNot (cEq (kI (kV X M_FC_as 1000 0 (xr 1) (aC (vI (xsld X (xr 0) (xadd (xi 3) (xc 1)))) (aC (vI (xsld X (xr 0) (xadd (xi 3) (xc 2)))) aN)))) (kI (kV X M_Mod_as 1000 12 (xr 2) (aC (vI (xsld X (xr 0) (xadd (xi 3) (xc 1)))) (aC (vI (xsld X (xr 0) (xadd (xi 3) (xc 2)))) aN)))))) (sRetZ (xc 0)) sBrk)), (37, (sIf (cNot (cEq (kI (kV X M_FC_image 1000 0 (xr 1) aN)) (kI (kV X M_Mod_image 1000 12 (xr 2) aN)))) (sRetZ (xc 0)) sBrk)), (38, (sIf (cNot (cEq (kI (kV X M_FC_undo 1000 0 (xr 1) aN)) (kI (kV X M_Mod_undo 1000 12 (xr 2) aN)))) (sRetZ (xc 0)) sBrk)), (39, (sIf (cNot (cEq (kI (kV X M_FC_count 1000 0 (xr 1) (aC (vI (xsld X (xr 0) (xadd (xi 3) (xc 1)))) aN))) (kI (kV X M_Mod_count 1000 12 (xr 2) (aC (vI (xsld X (xr 0) (xadd (xi 3) (xc 1)))) aN))))) (sRetZ (xc 0)) sBrk))] sBrk)
def B_law (X : WX) : ST := (sSeq (sR 1 (xNew X room_1 0 8 z_FC M_FC_init 1000 52 825 aN)) (sSeq (sR 2 (xNew X room_1 12 24 z_Mod M_Mod_init 1000 11 2020 aN)) (sSeq (sI 3 (xc 0)) (sSeq (sFor (cNot (cGt (xi 3) (xsub (xslen X (xr 0)) (xc 5)))) (L_law_1 X) (sInc 3 5)) (sRetZ (xc 1))))))
set_option maxHeartbeats 8000000 in
set_option maxRecDepth 100000 in
theorem F_law (X : WX) (pb pq : Nat) : FS X "FastClockLaw" code 4 (some .boolean) false room_1 0 1319 pb pq (B_law X) :=
  (s_seq (s_R_n (r_new N_Law_7 d_law_0 d_law_3 a_N C_Law_9 (by decide) (by decide) (by decide) d_law_4) (by decide) d_law_7 rfl) (s_seq (s_R_n (r_new N_Law_10 d_law_8 d_law_11 a_N C_Law_12 (by decide) (by decide) (by decide) d_law_12) (by decide) d_law_15 rfl) (s_seq (s_I_n (r_iconst d_law_16 (by decide)) (by decide) d_law_17 rfl) (s_seq (s_for (x1 := 0) (x2 := 0) (c_not (c_gt_t (r_iload_n d_law_18 rfl) (r_sub (r_slen (r_aload_n d_law_19 rfl) d_law_20) (r_iconst d_law_21 (by decide)) d_law_22) d_law_23 (by decide))) (s_tsw 1311 [(0, 208), (1, 231), (2, 244), (3, 277), (4, 310), (5, 343), (6, 376), (7, 419), (8, 452), (9, 475), (10, 508), (11, 531), (12, 544), (13, 577), (14, 590), (15, 603), (16, 626), (17, 669), (18, 712), (19, 745), (20, 799), (21, 822), (22, 845), (23, 878), (24, 891), (25, 914), (26, 947), (27, 980), (28, 1003), (29, 1037), (30, 1061), (31, 1104), (32, 1117), (33, 1150), (34, 1163), (35, 1206), (36, 1229), (37, 1262), (38, 1275), (39, 1288)] (r_and (r_sld (r_aload_n d_law_26 rfl) (r_iload_n d_law_27 rfl) d_law_28) (r_bipush d_law_29 (by decide)) d_law_31) d_law_32 (by decide +kernel) ⟨rfl, (s_if (c_not (c_eq_t (k_I (k_V (r_aload_n d_law_208 rfl) (a_C (v_I (r_sld (r_aload_n d_law_209 rfl) (r_add (r_iload_n d_law_210 rfl) (r_iconst d_law_211 (by decide)) d_law_212) d_law_213)) a_N) V_Law_13 (by decide) (by decide) (by decide) d_law_214)) (k_I (k_V (r_aload_n d_law_217 rfl) (a_C (v_I (r_sld (r_aload_n d_law_218 rfl) (r_add (r_iload_n d_law_219 rfl) (r_iconst d_law_220 (by decide)) d_law_221) d_law_222)) a_N) V_Law_17 (by decide) (by decide) (by decide) d_law_223)) d_law_226 (by decide))) (s_retZ (r_iconst d_law_229 (by decide)) rfl d_law_230) s_brk0), ⟨rfl, (s_if (c_not (c_eq_t (k_I (k_VA (r_aload_n d_law_231 rfl) a_N V_Law_18 (by decide) (by decide) (by decide) d_law_232)) (k_I (k_V (r_aload_n d_law_235 rfl) a_N V_Law_22 (by decide) (by decide) (by decide) d_law_236)) d_law_239 (by decide))) (s_retZ (r_iconst d_law_242 (by decide)) rfl d_law_243) s_brk0), ⟨rfl, (s_if (c_not (c_eq_t (k_I (k_VA (r_aload_n d_law_244 rfl) (a_C (v_I (r_sld (r_aload_n d_law_245 rfl) (r_add (r_iload_n d_law_246 rfl) (r_iconst d_law_247 (by decide)) d_law_248) d_law_249)) (a_C (v_I (r_sld (r_aload_n d_law_250 rfl) (r_add (r_iload_n d_law_251 rfl) (r_iconst d_law_252 (by decide)) d_law_253) d_law_254)) a_N)) V_Law_23 (by decide) (by decide) (by decide) d_law_255)) (k_I (k_V (r_aload_n d_law_258 rfl) (a_C (v_I (r_sld (r_aload_n d_law_259 rfl) (r_add (r_iload_n d_law_260 rfl) (r_iconst d_law_261 (by decide)) d_law_262) d_law_263)) (a_C (v_I (r_sld (r_aload_n d_law_264 rfl) (r_add (r_iload_n d_law_265 rfl) (r_iconst d_law_266 (by decide)) d_law_267) d_law_268)) a_N)) V_Law_27 (by decide) (by decide) (by decide) d_law_269)) d_law_272 (by decide))) (s_retZ (r_iconst d_law_275 (by decide)) rfl d_law_276) s_brk0), ⟨rfl, (s_if (c_not (c_eq_t (k_I (k_V (r_aload_n d_law_277 rfl) (a_C (v_I (r_sld (r_aload_n d_law_278 rfl) (r_add (r_iload_n d_law_279 rfl) (r_iconst d_law_280 (by decide)) d_law_281) d_law_282)) (a_C (v_I (r_sld (r_aload_n d_law_283 rfl) (r_add (r_iload_n d_law_284 rfl) (r_iconst d_law_285 (by decide)) d_law_286) d_law_287)) a_N)) V_Law_28 (by decide) (by decide) (by decide) d_law_288)) (k_I (k_V (r_aload_n d_law_291 rfl) (a_C (v_I (r_sld (r_aload_n d_law_292 rfl) (r_add (r_iload_n d_law_293 rfl) (r_iconst d_law_294 (by decide)) d_law_295) d_law_296)) (a_C (v_I (r_sld (r_aload_n d_law_297 rfl) (r_add (r_iload_n d_law_298 rfl) (r_iconst d_law_299 (by decide)) d_law_300) d_law_301)) a_N)) V_Law_31 (by decide) (by decide) (by decide) d_law_302)) d_law_305 (by decide))) (s_retZ (r_iconst d_law_308 (by decide)) rfl d_law_309) s_brk0), ⟨rfl, (s_if (c_not (c_eq_t (k_I (k_V (r_aload_n d_law_310 rfl) (a_C (v_I (r_sld (r_aload_n d_law_311 rfl) (r_add (r_iload_n d_law_312 rfl) (r_iconst d_law_313 (by decide)) d_law_314) d_law_315)) (a_C (v_I (r_sld (r_aload_n d_law_316 rfl) (r_add (r_iload_n d_law_317 rfl) (r_iconst d_law_318 (by decide)) d_law_319) d_law_320)) a_N)) V_Law_32 (by decide) (by decide) (by decide) d_law_321)) (k_I (k_V (r_aload_n d_law_324 rfl) (a_C (v_I (r_sld (r_aload_n d_law_325 rfl) (r_add (r_iload_n d_law_326 rfl) (r_iconst d_law_327 (by decide)) d_law_328) d_law_329)) (a_C (v_I (r_sld (r_aload_n d_law_330 rfl) (r_add (r_iload_n d_law_331 rfl) (r_iconst d_law_332 (by decide)) d_law_333) d_law_334)) a_N)) V_Law_35 (by decide) (by decide) (by decide) d_law_335)) d_law_338 (by decide))) (s_retZ (r_iconst d_law_341 (by decide)) rfl d_law_342) s_brk0), ⟨rfl, (s_if (c_not (c_eq_t (k_I (k_V (r_aload_n d_law_343 rfl) (a_C (v_I (r_sld (r_aload_n d_law_344 rfl) (r_add (r_iload_n d_law_345 rfl) (r_iconst d_law_346 (by decide)) d_law_347) d_law_348)) (a_C (v_I (r_sld (r_aload_n d_law_349 rfl) (r_add (r_iload_n d_law_350 rfl) (r_iconst d_law_351 (by decide)) d_law_352) d_law_353)) a_N)) V_Law_36 (by decide) (by decide) (by decide) d_law_354)) (k_I (k_V (r_aload_n d_law_357 rfl) (a_C (v_I (r_sld (r_aload_n d_law_358 rfl) (r_add (r_iload_n d_law_359 rfl) (r_iconst d_law_360 (by decide)) d_law_361) d_law_362)) (a_C (v_I (r_sld (r_aload_n d_law_363 rfl) (r_add (r_iload_n d_law_364 rfl) (r_iconst d_law_365 (by decide)) d_law_366) d_law_367)) a_N)) V_Law_39 (by decide) (by decide) (by decide) d_law_368)) d_law_371 (by decide))) (s_retZ (r_iconst d_law_374 (by decide)) rfl d_law_375) s_brk0), ⟨rfl, (s_if (c_not (c_eq_t (k_I (k_V (r_aload_n d_law_376 rfl) (a_C (v_I (r_sld (r_aload_n d_law_377 rfl) (r_add (r_iload_n d_law_378 rfl) (r_iconst d_law_379 (by decide)) d_law_380) d_law_381)) (a_C (v_I (r_sld (r_aload_n d_law_382 rfl) (r_add (r_iload_n d_law_383 rfl) (r_iconst d_law_384 (by decide)) d_law_385) d_law_386)) (a_C (v_I (r_sld (r_aload_n d_law_387 rfl) (r_add (r_iload_n d_law_388 rfl) (r_iconst d_law_389 (by decide)) d_law_390) d_law_391)) a_N))) V_Law_40 (by decide) (by decide) (by decide) d_law_392)) (k_I (k_V (r_aload_n d_law_395 rfl) (a_C (v_I (r_sld (r_aload_n d_law_396 rfl) (r_add (r_iload_n d_law_397 rfl) (r_iconst d_law_398 (by decide)) d_law_399) d_law_400)) (a_C (v_I (r_sld (r_aload_n d_law_401 rfl) (r_add (r_iload_n d_law_402 rfl) (r_iconst d_law_403 (by decide)) d_law_404) d_law_405)) (a_C (v_I (r_sld (r_aload_n d_law_406 rfl) (r_add (r_iload_n d_law_407 rfl) (r_iconst d_law_408 (by decide)) d_law_409) d_law_410)) a_N))) V_Law_44 (by decide) (by decide) (by decide) d_law_411)) d_law_414 (by decide))) (s_retZ (r_iconst d_law_417 (by decide)) rfl d_law_418) s_brk0), ⟨rfl, (s_if (c_not (c_eq_t (k_I (k_V (r_aload_n d_law_419 rfl) (a_C (v_I (r_sld (r_aload_n d_law_420 rfl) (r_add (r_iload_n d_law_421 rfl) (r_iconst d_law_422 (by decide)) d_law_423) d_law_424)) (a_C (v_I (r_sld (r_aload_n d_law_425 rfl) (r_add (r_iload_n d_law_426 rfl) (r_iconst d_law_427 (by decide)) d_law_428) d_law_429)) a_N)) V_Law_45 (by decide) (by decide) (by decide) d_law_430)) (k_I (k_V (r_aload_n d_law_433 rfl) (a_C (v_I (r_sld (r_aload_n d_law_434 rfl) (r_add (r_iload_n d_law_435 rfl) (r_iconst d_law_436 (by decide)) d_law_437) d_law_438)) (a_C (v_I (r_sld (r_aload_n d_law_439 rfl) (r_add (r_iload_n d_law_440 rfl) (r_iconst d_law_441 (by decide)) d_law_442) d_law_443)) a_N)) V_Law_48 (by decide) (by decide) (by decide) d_law_444)) d_law_447 (by decide))) (s_retZ (r_iconst d_law_450 (by decide)) rfl d_law_451) s_brk0), ⟨rfl, (s_if (c_not (c_eq_t (k_I (k_V (r_aload_n d_law_452 rfl) (a_C (v_I (r_sld (r_aload_n d_law_453 rfl) (r_add (r_iload_n d_law_454 rfl) (r_iconst d_law_455 (by decide)) d_law_456) d_law_457)) a_N) V_Law_49 (by decide) (by decide) (by decide) d_law_458)) (k_I (k_V (r_aload_n d_law_461 rfl) (a_C (v_I (r_sld (r_aload_n d_law_462 rfl) (r_add (r_iload_n d_law_463 rfl) (r_iconst d_law_464 (by decide)) d_law_465) d_law_466)) a_N) V_Law_52 (by decide) (by decide) (by decide) d_law_467)) d_law_470 (by decide))) (s_retZ (r_iconst d_law_473 (by decide)) rfl d_law_474) s_brk0), ⟨rfl, (s_if (c_not (c_eq_t (k_I (k_V (r_aload_n d_law_475 rfl) (a_C (v_I (r_sld (r_aload_n d_law_476 rfl) (r_add (r_iload_n d_law_477 rfl) (r_iconst d_law_478 (by decide)) d_law_479) d_law_480)) (a_C (v_I (r_sld (r_aload_n d_law_481 rfl) (r_add (r_iload_n d_law_482 rfl) (r_iconst d_law_483 (by decide)) d_law_484) d_law_485)) a_N)) V_Law_53 (by decide) (by decide) (by decide) d_law_486)) (k_I (k_V (r_aload_n d_law_489 rfl) (a_C (v_I (r_sld (r_aload_n d_law_490 rfl) (r_add (r_iload_n d_law_491 rfl) (r_iconst d_law_492 (by decide)) d_law_493) d_law_494)) (a_C (v_I (r_sld (r_aload_n d_law_495 rfl) (r_add (r_iload_n d_law_496 rfl) (r_iconst d_law_497 (by decide)) d_law_498) d_law_499)) a_N)) V_Law_56 (by decide) (by decide) (by decide) d_law_500)) d_law_503 (by decide))) (s_retZ (r_iconst d_law_506 (by decide)) rfl d_law_507) s_brk0), ⟨rfl, (s_if (c_not (c_eq_t (k_I (k_V (r_aload_n d_law_508 rfl) (a_C (v_I (r_sld (r_aload_n d_law_509 rfl) (r_add (r_iload_n d_law_510 rfl) (r_iconst d_law_511 (by decide)) d_law_512) d_law_513)) a_N) V_Law_57 (by decide) (by decide) (by decide) d_law_514)) (k_I (k_V (r_aload_n d_law_517 rfl) (a_C (v_I (r_sld (r_aload_n d_law_518 rfl) (r_add (r_iload_n d_law_519 rfl) (r_iconst d_law_520 (by decide)) d_law_521) d_law_522)) a_N) V_Law_60 (by decide) (by decide) (by decide) d_law_523)) d_law_526 (by decide))) (s_retZ (r_iconst d_law_529 (by decide)) rfl d_law_530) s_brk0), ⟨rfl, (s_if (c_not (c_eq_t (k_I (k_V (r_aload_n d_law_531 rfl) a_N V_Law_61 (by decide) (by decide) (by decide) d_law_532)) (k_I (k_V (r_aload_n d_law_535 rfl) a_N V_Law_64 (by decide) (by decide) (by decide) d_law_536)) d_law_539 (by decide))) (s_retZ (r_iconst d_law_542 (by decide)) rfl d_law_543) s_brk0), ⟨rfl, (s_if (c_not (c_eq_t (k_I (k_V (r_aload_n d_law_544 rfl) (a_C (v_I (r_sld (r_aload_n d_law_545 rfl) (r_add (r_iload_n d_law_546 rfl) (r_iconst d_law_547 (by decide)) d_law_548) d_law_549)) (a_C (v_I (r_sld (r_aload_n d_law_550 rfl) (r_add (r_iload_n d_law_551 rfl) (r_iconst d_law_552 (by decide)) d_law_553) d_law_554)) a_N)) V_Law_65 (by decide) (by decide) (by decide) d_law_555)) (k_I (k_V (r_aload_n d_law_558 rfl) (a_C (v_I (r_sld (r_aload_n d_law_559 rfl) (r_add (r_iload_n d_law_560 rfl) (r_iconst d_law_561 (by decide)) d_law_562) d_law_563)) (a_C (v_I (r_sld (r_aload_n d_law_564 rfl) (r_add (r_iload_n d_law_565 rfl) (r_iconst d_law_566 (by decide)) d_law_567) d_law_568)) a_N)) V_Law_68 (by decide) (by decide) (by decide) d_law_569)) d_law_572 (by decide))) (s_retZ (r_iconst d_law_575 (by decide)) rfl d_law_576) s_brk0), ⟨rfl, (s_if (c_not (c_eq_t (k_I (k_V (r_aload_n d_law_577 rfl) a_N V_Law_69 (by decide) (by decide) (by decide) d_law_578)) (k_I (k_V (r_aload_n d_law_581 rfl) a_N V_Law_72 (by decide) (by decide) (by decide) d_law_582)) d_law_585 (by decide))) (s_retZ (r_iconst d_law_588 (by decide)) rfl d_law_589) s_brk0), ⟨rfl, (s_if (c_not (c_eq_t (k_I (k_V (r_aload_n d_law_590 rfl) a_N V_Law_73 (by decide) (by decide) (by decide) d_law_591)) (k_I (k_V (r_aload_n d_law_594 rfl) a_N V_Law_76 (by decide) (by decide) (by decide) d_law_595)) d_law_598 (by decide))) (s_retZ (r_iconst d_law_601 (by decide)) rfl d_law_602) s_brk0), ⟨rfl, (s_if (c_not (c_eq_t (k_I (k_V (r_aload_n d_law_603 rfl) (a_C (v_I (r_sld (r_aload_n d_law_604 rfl) (r_add (r_iload_n d_law_605 rfl) (r_iconst d_law_606 (by decide)) d_law_607) d_law_608)) a_N) V_Law_77 (by decide) (by decide) (by decide) d_law_609)) (k_I (k_V (r_aload_n d_law_612 rfl) (a_C (v_I (r_sld (r_aload_n d_law_613 rfl) (r_add (r_iload_n d_law_614 rfl) (r_iconst d_law_615 (by decide)) d_law_616) d_law_617)) a_N) V_Law_80 (by decide) (by decide) (by decide) d_law_618)) d_law_621 (by decide))) (s_retZ (r_iconst d_law_624 (by decide)) rfl d_law_625) s_brk0), ⟨rfl, (s_if (c_not (c_eq_t (k_I (k_V (r_aload_n d_law_626 rfl) (a_C (v_I (r_sld (r_aload_n d_law_627 rfl) (r_add (r_iload_n d_law_628 rfl) (r_iconst d_law_629 (by decide)) d_law_630) d_law_631)) (a_C (v_I (r_sld (r_aload_n d_law_632 rfl) (r_add (r_iload_n d_law_633 rfl) (r_iconst d_law_634 (by decide)) d_law_635) d_law_636)) (a_C (v_I (r_sld (r_aload_n d_law_637 rfl) (r_add (r_iload_n d_law_638 rfl) (r_iconst d_law_639 (by decide)) d_law_640) d_law_641)) a_N))) V_Law_81 (by decide) (by decide) (by decide) d_law_642)) (k_I (k_V (r_aload_n d_law_645 rfl) (a_C (v_I (r_sld (r_aload_n d_law_646 rfl) (r_add (r_iload_n d_law_647 rfl) (r_iconst d_law_648 (by decide)) d_law_649) d_law_650)) (a_C (v_I (r_sld (r_aload_n d_law_651 rfl) (r_add (r_iload_n d_law_652 rfl) (r_iconst d_law_653 (by decide)) d_law_654) d_law_655)) (a_C (v_I (r_sld (r_aload_n d_law_656 rfl) (r_add (r_iload_n d_law_657 rfl) (r_iconst d_law_658 (by decide)) d_law_659) d_law_660)) a_N))) V_Law_84 (by decide) (by decide) (by decide) d_law_661)) d_law_664 (by decide))) (s_retZ (r_iconst d_law_667 (by decide)) rfl d_law_668) s_brk0), ⟨rfl, (s_if (c_not (c_eq_t (k_I (k_V (r_aload_n d_law_669 rfl) (a_C (v_I (r_sld (r_aload_n d_law_670 rfl) (r_add (r_iload_n d_law_671 rfl) (r_iconst d_law_672 (by decide)) d_law_673) d_law_674)) (a_C (v_I (r_sld (r_aload_n d_law_675 rfl) (r_add (r_iload_n d_law_676 rfl) (r_iconst d_law_677 (by decide)) d_law_678) d_law_679)) (a_C (v_I (r_sld (r_aload_n d_law_680 rfl) (r_add (r_iload_n d_law_681 rfl) (r_iconst d_law_682 (by decide)) d_law_683) d_law_684)) a_N))) V_Law_85 (by decide) (by decide) (by decide) d_law_685)) (k_I (k_V (r_aload_n d_law_688 rfl) (a_C (v_I (r_sld (r_aload_n d_law_689 rfl) (r_add (r_iload_n d_law_690 rfl) (r_iconst d_law_691 (by decide)) d_law_692) d_law_693)) (a_C (v_I (r_sld (r_aload_n d_law_694 rfl) (r_add (r_iload_n d_law_695 rfl) (r_iconst d_law_696 (by decide)) d_law_697) d_law_698)) (a_C (v_I (r_sld (r_aload_n d_law_699 rfl) (r_add (r_iload_n d_law_700 rfl) (r_iconst d_law_701 (by decide)) d_law_702) d_law_703)) a_N))) V_Law_88 (by decide) (by decide) (by decide) d_law_704)) d_law_707 (by decide))) (s_retZ (r_iconst d_law_710 (by decide)) rfl d_law_711) s_brk0), ⟨rfl, (s_if (c_not (c_eq_t (k_I (k_V (r_aload_n d_law_712 rfl) (a_C (v_I (r_sld (r_aload_n d_law_713 rfl) (r_add (r_iload_n d_law_714 rfl) (r_iconst d_law_715 (by decide)) d_law_716) d_law_717)) (a_C (v_I (r_sld (r_aload_n d_law_718 rfl) (r_add (r_iload_n d_law_719 rfl) (r_iconst d_law_720 (by decide)) d_law_721) d_law_722)) a_N)) V_Law_89 (by decide) (by decide) (by decide) d_law_723)) (k_I (k_V (r_aload_n d_law_726 rfl) (a_C (v_I (r_sld (r_aload_n d_law_727 rfl) (r_add (r_iload_n d_law_728 rfl) (r_iconst d_law_729 (by decide)) d_law_730) d_law_731)) (a_C (v_I (r_sld (r_aload_n d_law_732 rfl) (r_add (r_iload_n d_law_733 rfl) (r_iconst d_law_734 (by decide)) d_law_735) d_law_736)) a_N)) V_Law_92 (by decide) (by decide) (by decide) d_law_737)) d_law_740 (by decide))) (s_retZ (r_iconst d_law_743 (by decide)) rfl d_law_744) s_brk0), ⟨rfl, (s_if (c_not (c_eql_t (k_L (k_V (r_aload_n d_law_745 rfl) (a_C (v_I (r_sld (r_aload_n d_law_746 rfl) (r_add (r_iload_n d_law_747 rfl) (r_iconst d_law_748 (by decide)) d_law_749) d_law_750)) (a_C (v_I (r_sld (r_aload_n d_law_751 rfl) (r_add (r_iload_n d_law_752 rfl) (r_iconst d_law_753 (by decide)) d_law_754) d_law_755)) (a_C (v_I (r_sld (r_aload_n d_law_756 rfl) (r_add (r_iload_n d_law_757 rfl) (r_iconst d_law_758 (by decide)) d_law_759) d_law_760)) (a_C (v_I (r_sld (r_aload_n d_law_761 rfl) (r_add (r_iload_n d_law_762 rfl) (r_iconst d_law_763 (by decide)) d_law_764) d_law_765)) a_N)))) V_Law_93 (by decide) (by decide) (by decide) d_law_766)) (k_L (k_V (r_aload_n d_law_769 rfl) (a_C (v_I (r_sld (r_aload_n d_law_770 rfl) (r_add (r_iload_n d_law_771 rfl) (r_iconst d_law_772 (by decide)) d_law_773) d_law_774)) (a_C (v_I (r_sld (r_aload_n d_law_775 rfl) (r_add (r_iload_n d_law_776 rfl) (r_iconst d_law_777 (by decide)) d_law_778) d_law_779)) (a_C (v_I (r_sld (r_aload_n d_law_780 rfl) (r_add (r_iload_n d_law_781 rfl) (r_iconst d_law_782 (by decide)) d_law_783) d_law_784)) (a_C (v_I (r_sld (r_aload_n d_law_785 rfl) (r_add (r_iload_n d_law_786 rfl) (r_iconst d_law_787 (by decide)) d_law_788) d_law_789)) a_N)))) V_Law_97 (by decide) (by decide) (by decide) d_law_790)) d_law_793 d_law_794 (by decide))) (s_retZ (r_iconst d_law_797 (by decide)) rfl d_law_798) s_brk0), ⟨rfl, (s_if (c_not (c_eq_t (k_I (k_V (r_aload_n d_law_799 rfl) (a_C (v_I (r_sld (r_aload_n d_law_800 rfl) (r_add (r_iload_n d_law_801 rfl) (r_iconst d_law_802 (by decide)) d_law_803) d_law_804)) a_N) V_Law_98 (by decide) (by decide) (by decide) d_law_805)) (k_I (k_V (r_aload_n d_law_808 rfl) (a_C (v_I (r_sld (r_aload_n d_law_809 rfl) (r_add (r_iload_n d_law_810 rfl) (r_iconst d_law_811 (by decide)) d_law_812) d_law_813)) a_N) V_Law_101 (by decide) (by decide) (by decide) d_law_814)) d_law_817 (by decide))) (s_retZ (r_iconst d_law_820 (by decide)) rfl d_law_821) s_brk0), ⟨rfl, (s_if (c_not (c_eq_t (k_I (k_V (r_aload_n d_law_822 rfl) (a_C (v_I (r_sld (r_aload_n d_law_823 rfl) (r_add (r_iload_n d_law_824 rfl) (r_iconst d_law_825 (by decide)) d_law_826) d_law_827)) a_N) V_Law_102 (by decide) (by decide) (by decide) d_law_828)) (k_I (k_V (r_aload_n d_law_831 rfl) (a_C (v_I (r_sld (r_aload_n d_law_832 rfl) (r_add (r_iload_n d_law_833 rfl) (r_iconst d_law_834 (by decide)) d_law_835) d_law_836)) a_N) V_Law_105 (by decide) (by decide) (by decide) d_law_837)) d_law_840 (by decide))) (s_retZ (r_iconst d_law_843 (by decide)) rfl d_law_844) s_brk0), ⟨rfl, (s_if (c_not (c_eq_t (k_I (k_V (r_aload_n d_law_845 rfl) (a_C (v_I (r_sld (r_aload_n d_law_846 rfl) (r_add (r_iload_n d_law_847 rfl) (r_iconst d_law_848 (by decide)) d_law_849) d_law_850)) (a_C (v_I (r_sld (r_aload_n d_law_851 rfl) (r_add (r_iload_n d_law_852 rfl) (r_iconst d_law_853 (by decide)) d_law_854) d_law_855)) a_N)) V_Law_106 (by decide) (by decide) (by decide) d_law_856)) (k_I (k_V (r_aload_n d_law_859 rfl) (a_C (v_I (r_sld (r_aload_n d_law_860 rfl) (r_add (r_iload_n d_law_861 rfl) (r_iconst d_law_862 (by decide)) d_law_863) d_law_864)) (a_C (v_I (r_sld (r_aload_n d_law_865 rfl) (r_add (r_iload_n d_law_866 rfl) (r_iconst d_law_867 (by decide)) d_law_868) d_law_869)) a_N)) V_Law_109 (by decide) (by decide) (by decide) d_law_870)) d_law_873 (by decide))) (s_retZ (r_iconst d_law_876 (by decide)) rfl d_law_877) s_brk0), ⟨rfl, (s_if (c_not (c_eq_t (k_I (k_V (r_aload_n d_law_878 rfl) a_N V_Law_110 (by decide) (by decide) (by decide) d_law_879)) (k_I (k_V (r_aload_n d_law_882 rfl) a_N V_Law_113 (by decide) (by decide) (by decide) d_law_883)) d_law_886 (by decide))) (s_retZ (r_iconst d_law_889 (by decide)) rfl d_law_890) s_brk0), ⟨rfl, (s_if (c_not (c_eq_t (k_I (k_V (r_aload_n d_law_891 rfl) (a_C (v_I (r_sld (r_aload_n d_law_892 rfl) (r_add (r_iload_n d_law_893 rfl) (r_iconst d_law_894 (by decide)) d_law_895) d_law_896)) a_N) V_Law_114 (by decide) (by decide) (by decide) d_law_897)) (k_I (k_V (r_aload_n d_law_900 rfl) (a_C (v_I (r_sld (r_aload_n d_law_901 rfl) (r_add (r_iload_n d_law_902 rfl) (r_iconst d_law_903 (by decide)) d_law_904) d_law_905)) a_N) V_Law_117 (by decide) (by decide) (by decide) d_law_906)) d_law_909 (by decide))) (s_retZ (r_iconst d_law_912 (by decide)) rfl d_law_913) s_brk0), ⟨rfl, (s_if (c_not (c_eq_t (k_I (k_V (r_aload_n d_law_914 rfl) (a_C (v_I (r_sld (r_aload_n d_law_915 rfl) (r_add (r_iload_n d_law_916 rfl) (r_iconst d_law_917 (by decide)) d_law_918) d_law_919)) (a_C (v_I (r_sld (r_aload_n d_law_920 rfl) (r_add (r_iload_n d_law_921 rfl) (r_iconst d_law_922 (by decide)) d_law_923) d_law_924)) a_N)) V_Law_118 (by decide) (by decide) (by decide) d_law_925)) (k_I (k_V (r_aload_n d_law_928 rfl) (a_C (v_I (r_sld (r_aload_n d_law_929 rfl) (r_add (r_iload_n d_law_930 rfl) (r_iconst d_law_931 (by decide)) d_law_932) d_law_933)) (a_C (v_I (r_sld (r_aload_n d_law_934 rfl) (r_add (r_iload_n d_law_935 rfl) (r_iconst d_law_936 (by decide)) d_law_937) d_law_938)) a_N)) V_Law_121 (by decide) (by decide) (by decide) d_law_939)) d_law_942 (by decide))) (s_retZ (r_iconst d_law_945 (by decide)) rfl d_law_946) s_brk0), ⟨rfl, (s_if (c_not (c_eq_t (k_I (k_V (r_aload_n d_law_947 rfl) (a_C (v_I (r_sld (r_aload_n d_law_948 rfl) (r_add (r_iload_n d_law_949 rfl) (r_iconst d_law_950 (by decide)) d_law_951) d_law_952)) (a_C (v_I (r_sld (r_aload_n d_law_953 rfl) (r_add (r_iload_n d_law_954 rfl) (r_iconst d_law_955 (by decide)) d_law_956) d_law_957)) a_N)) V_Law_122 (by decide) (by decide) (by decide) d_law_958)) (k_I (k_V (r_aload_n d_law_961 rfl) (a_C (v_I (r_sld (r_aload_n d_law_962 rfl) (r_add (r_iload_n d_law_963 rfl) (r_iconst d_law_964 (by decide)) d_law_965) d_law_966)) (a_C (v_I (r_sld (r_aload_n d_law_967 rfl) (r_add (r_iload_n d_law_968 rfl) (r_iconst d_law_969 (by decide)) d_law_970) d_law_971)) a_N)) V_Law_125 (by decide) (by decide) (by decide) d_law_972)) d_law_975 (by decide))) (s_retZ (r_iconst d_law_978 (by decide)) rfl d_law_979) s_brk0), ⟨rfl, (s_if (c_not (c_eq_t (k_I (k_V (r_aload_n d_law_980 rfl) (a_C (v_I (r_sld (r_aload_n d_law_981 rfl) (r_add (r_iload_n d_law_982 rfl) (r_iconst d_law_983 (by decide)) d_law_984) d_law_985)) a_N) V_Law_126 (by decide) (by decide) (by decide) d_law_986)) (k_I (k_V (r_aload_n d_law_989 rfl) (a_C (v_I (r_sld (r_aload_n d_law_990 rfl) (r_add (r_iload_n d_law_991 rfl) (r_iconst d_law_992 (by decide)) d_law_993) d_law_994)) a_N) V_Law_129 (by decide) (by decide) (by decide) d_law_995)) d_law_998 (by decide))) (s_retZ (r_iconst d_law_1001 (by decide)) rfl d_law_1002) s_brk0), ⟨rfl, (s_if (c_not (c_eql_t (k_L (k_V (r_aload_n d_law_1003 rfl) (a_C (v_I (r_sld (r_aload_n d_law_1004 rfl) (r_add (r_iload_n d_law_1005 rfl) (r_iconst d_law_1006 (by decide)) d_law_1007) d_law_1008)) (a_C (v_I (r_sld (r_aload_n d_law_1009 rfl) (r_add (r_iload_n d_law_1010 rfl) (r_iconst d_law_1011 (by decide)) d_law_1012) d_law_1013)) a_N)) V_Law_130 (by decide) (by decide) (by decide) d_law_1014)) (k_L (k_V (r_aload_n d_law_1017 rfl) (a_C (v_I (r_sld (r_aload_n d_law_1018 rfl) (r_add (r_iload_n d_law_1019 rfl) (r_iconst d_law_1020 (by decide)) d_law_1021) d_law_1022)) (a_C (v_I (r_sld (r_aload_n d_law_1023 rfl) (r_add (r_iload_n d_law_1024 rfl) (r_iconst d_law_1025 (by decide)) d_law_1026) d_law_1027)) a_N)) V_Law_134 (by decide) (by decide) (by decide) d_law_1028)) d_law_1031 d_law_1032 (by decide))) (s_retZ (r_iconst d_law_1035 (by decide)) rfl d_law_1036) s_brk0), ⟨rfl, (s_if (c_not (c_eql_t (k_L (k_V (r_aload_n d_law_1037 rfl) (a_C (v_I (r_sld (r_aload_n d_law_1038 rfl) (r_add (r_iload_n d_law_1039 rfl) (r_iconst d_law_1040 (by decide)) d_law_1041) d_law_1042)) a_N) V_Law_135 (by decide) (by decide) (by decide) d_law_1043)) (k_L (k_V (r_aload_n d_law_1046 rfl) (a_C (v_I (r_sld (r_aload_n d_law_1047 rfl) (r_add (r_iload_n d_law_1048 rfl) (r_iconst d_law_1049 (by decide)) d_law_1050) d_law_1051)) a_N) V_Law_139 (by decide) (by decide) (by decide) d_law_1052)) d_law_1055 d_law_1056 (by decide))) (s_retZ (r_iconst d_law_1059 (by decide)) rfl d_law_1060) s_brk0), ⟨rfl, (s_if (c_not (c_eq_t (k_I (k_V (r_aload_n d_law_1061 rfl) (a_C (v_I (r_sld (r_aload_n d_law_1062 rfl) (r_add (r_iload_n d_law_1063 rfl) (r_iconst d_law_1064 (by decide)) d_law_1065) d_law_1066)) (a_C (v_I (r_sld (r_aload_n d_law_1067 rfl) (r_add (r_iload_n d_law_1068 rfl) (r_iconst d_law_1069 (by decide)) d_law_1070) d_law_1071)) (a_C (v_I (r_sld (r_aload_n d_law_1072 rfl) (r_add (r_iload_n d_law_1073 rfl) (r_iconst d_law_1074 (by decide)) d_law_1075) d_law_1076)) a_N))) V_Law_140 (by decide) (by decide) (by decide) d_law_1077)) (k_I (k_V (r_aload_n d_law_1080 rfl) (a_C (v_I (r_sld (r_aload_n d_law_1081 rfl) (r_add (r_iload_n d_law_1082 rfl) (r_iconst d_law_1083 (by decide)) d_law_1084) d_law_1085)) (a_C (v_I (r_sld (r_aload_n d_law_1086 rfl) (r_add (r_iload_n d_law_1087 rfl) (r_iconst d_law_1088 (by decide)) d_law_1089) d_law_1090)) (a_C (v_I (r_sld (r_aload_n d_law_1091 rfl) (r_add (r_iload_n d_law_1092 rfl) (r_iconst d_law_1093 (by decide)) d_law_1094) d_law_1095)) a_N))) V_Law_143 (by decide) (by decide) (by decide) d_law_1096)) d_law_1099 (by decide))) (s_retZ (r_iconst d_law_1102 (by decide)) rfl d_law_1103) s_brk0), ⟨rfl, (s_if (c_not (c_eq_t (k_I (k_V (r_aload_n d_law_1104 rfl) a_N V_Law_144 (by decide) (by decide) (by decide) d_law_1105)) (k_I (k_V (r_aload_n d_law_1108 rfl) a_N V_Law_147 (by decide) (by decide) (by decide) d_law_1109)) d_law_1112 (by decide))) (s_retZ (r_iconst d_law_1115 (by decide)) rfl d_law_1116) s_brk0), ⟨rfl, (s_if (c_not (c_eq_t (k_I (k_V (r_aload_n d_law_1117 rfl) (a_C (v_I (r_sld (r_aload_n d_law_1118 rfl) (r_add (r_iload_n d_law_1119 rfl) (r_iconst d_law_1120 (by decide)) d_law_1121) d_law_1122)) (a_C (v_I (r_sld (r_aload_n d_law_1123 rfl) (r_add (r_iload_n d_law_1124 rfl) (r_iconst d_law_1125 (by decide)) d_law_1126) d_law_1127)) a_N)) V_Law_148 (by decide) (by decide) (by decide) d_law_1128)) (k_I (k_V (r_aload_n d_law_1131 rfl) (a_C (v_I (r_sld (r_aload_n d_law_1132 rfl) (r_add (r_iload_n d_law_1133 rfl) (r_iconst d_law_1134 (by decide)) d_law_1135) d_law_1136)) (a_C (v_I (r_sld (r_aload_n d_law_1137 rfl) (r_add (r_iload_n d_law_1138 rfl) (r_iconst d_law_1139 (by decide)) d_law_1140) d_law_1141)) a_N)) V_Law_151 (by decide) (by decide) (by decide) d_law_1142)) d_law_1145 (by decide))) (s_retZ (r_iconst d_law_1148 (by decide)) rfl d_law_1149) s_brk0), ⟨rfl, (s_if (c_not (c_eq_t (k_I (k_V (r_aload_n d_law_1150 rfl) a_N V_Law_152 (by decide) (by decide) (by decide) d_law_1151)) (k_I (k_V (r_aload_n d_law_1154 rfl) a_N V_Law_155 (by decide) (by decide) (by decide) d_law_1155)) d_law_1158 (by decide))) (s_retZ (r_iconst d_law_1161 (by decide)) rfl d_law_1162) s_brk0), ⟨rfl, (s_if (c_not (c_eq_t (k_I (k_V (r_aload_n d_law_1163 rfl) (a_C (v_I (r_sld (r_aload_n d_law_1164 rfl) (r_add (r_iload_n d_law_1165 rfl) (r_iconst d_law_1166 (by decide)) d_law_1167) d_law_1168)) (a_C (v_I (r_sld (r_aload_n d_law_1169 rfl) (r_add (r_iload_n d_law_1170 rfl) (r_iconst d_law_1171 (by decide)) d_law_1172) d_law_1173)) (a_C (v_I (r_sld (r_aload_n d_law_1174 rfl) (r_add (r_iload_n d_law_1175 rfl) (r_iconst d_law_1176 (by decide)) d_law_1177) d_law_1178)) a_N))) V_Law_156 (by decide) (by decide) (by decide) d_law_1179)) (k_I (k_V (r_aload_n d_law_1182 rfl) (a_C (v_I (r_sld (r_aload_n d_law_1183 rfl) (r_add (r_iload_n d_law_1184 rfl) (r_iconst d_law_1185 (by decide)) d_law_1186) d_law_1187)) (a_C (v_I (r_sld (r_aload_n d_law_1188 rfl) (r_add (r_iload_n d_law_1189 rfl) (r_iconst d_law_1190 (by decide)) d_law_1191) d_law_1192)) (a_C (v_I (r_sld (r_aload_n d_law_1193 rfl) (r_add (r_iload_n d_law_1194 rfl) (r_iconst d_law_1195 (by decide)) d_law_1196) d_law_1197)) a_N))) V_Law_159 (by decide) (by decide) (by decide) d_law_1198)) d_law_1201 (by decide))) (s_retZ (r_iconst d_law_1204 (by decide)) rfl d_law_1205) s_brk0), ⟨rfl, (s_if (c_not (c_eq_t (k_I (k_V (r_aload_n d_law_1206 rfl) (a_C (v_I (r_sld (r_aload_n d_law_1207 rfl) (r_add (r_iload_n d_law_1208 rfl) (r_iconst d_law_1209 (by decide)) d_law_1210) d_law_1211)) a_N) V_Law_160 (by decide) (by decide) (by decide) d_law_1212)) (k_I (k_V (r_aload_n d_law_1215 rfl) (a_C (v_I (r_sld (r_aload_n d_law_1216 rfl) (r_add (r_iload_n d_law_1217 rfl) (r_iconst d_law_1218 (by decide)) d_law_1219) d_law_1220)) a_N) V_Law_163 (by decide) (by decide) (by decide) d_law_1221)) d_law_1224 (by decide))) (s_retZ (r_iconst d_law_1227 (by decide)) rfl d_law_1228) s_brk0), ⟨rfl, (s_if (c_not (c_eq_t (k_I (k_V (r_aload_n d_law_1229 rfl) (a_C (v_I (r_sld (r_aload_n d_law_1230 rfl) (r_add (r_iload_n d_law_1231 rfl) (r_iconst d_law_1232 (by decide)) d_law_1233) d_law_1234)) (a_C (v_I (r_sld (r_aload_n d_law_1235 rfl) (r_add (r_iload_n d_law_1236 rfl) (r_iconst d_law_1237 (by decide)) d_law_1238) d_law_1239)) a_N)) V_Law_164 (by decide) (by decide) (by decide) d_law_1240)) (k_I (k_V (r_aload_n d_law_1243 rfl) (a_C (v_I (r_sld (r_aload_n d_law_1244 rfl) (r_add (r_iload_n d_law_1245 rfl) (r_iconst d_law_1246 (by decide)) d_law_1247) d_law_1248)) (a_C (v_I (r_sld (r_aload_n d_law_1249 rfl) (r_add (r_iload_n d_law_1250 rfl) (r_iconst d_law_1251 (by decide)) d_law_1252) d_law_1253)) a_N)) V_Law_167 (by decide) (by decide) (by decide) d_law_1254)) d_law_1257 (by decide))) (s_retZ (r_iconst d_law_1260 (by decide)) rfl d_law_1261) s_brk0), ⟨rfl, (s_if (c_not (c_eq_t (k_I (k_V (r_aload_n d_law_1262 rfl) a_N V_Law_168 (by decide) (by decide) (by decide) d_law_1263)) (k_I (k_V (r_aload_n d_law_1266 rfl) a_N V_Law_171 (by decide) (by decide) (by decide) d_law_1267)) d_law_1270 (by decide))) (s_retZ (r_iconst d_law_1273 (by decide)) rfl d_law_1274) s_brk0), ⟨rfl, (s_if (c_not (c_eq_t (k_I (k_V (r_aload_n d_law_1275 rfl) a_N V_Law_172 (by decide) (by decide) (by decide) d_law_1276)) (k_I (k_V (r_aload_n d_law_1279 rfl) a_N V_Law_175 (by decide) (by decide) (by decide) d_law_1280)) d_law_1283 (by decide))) (s_retZ (r_iconst d_law_1286 (by decide)) rfl d_law_1287) s_brk0), ⟨rfl, (s_if (c_not (c_eq_t (k_I (k_V (r_aload_n d_law_1288 rfl) (a_C (v_I (r_sld (r_aload_n d_law_1289 rfl) (r_add (r_iload_n d_law_1290 rfl) (r_iconst d_law_1291 (by decide)) d_law_1292) d_law_1293)) a_N) V_Law_176 (by decide) (by decide) (by decide) d_law_1294)) (k_I (k_V (r_aload_n d_law_1297 rfl) (a_C (v_I (r_sld (r_aload_n d_law_1298 rfl) (r_add (r_iload_n d_law_1299 rfl) (r_iconst d_law_1300 (by decide)) d_law_1301) d_law_1302)) a_N) V_Law_179 (by decide) (by decide) (by decide) d_law_1303)) d_law_1306 (by decide))) (s_retZ (r_iconst d_law_1309 (by decide)) rfl d_law_1310) s_brk0), trivial⟩⟩⟩⟩⟩⟩⟩⟩⟩⟩⟩⟩⟩⟩⟩⟩⟩⟩⟩⟩⟩⟩⟩⟩⟩⟩⟩⟩⟩⟩⟩⟩⟩⟩⟩⟩⟩⟩⟩⟩ s_brk0) (s_inc (by decide) d_law_1311 (by decide)) d_law_1314 (by decide)) (s_retZ (r_iconst d_law_1317 (by decide)) rfl d_law_1318)))))
