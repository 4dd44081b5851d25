theorem dL_law_204 : decode code 204 = .ok (.aload_n 1, 1) := by decide +kernel
theorem dL_law_205 : decode code 205 = .ok (.aload_n 0, 1) := by decide +kernel
theorem dL_law_206 : decode code 206 = .ok (.iload_n 3, 1) := by decide +kernel
theorem dL_law_207 : decode code 207 = .ok (.iconst 1, 1) := by decide +kernel
theorem dL_law_208 : decode code 208 = .ok (.iadd, 1) := by decide +kernel
theorem dL_law_209 : decode code 209 = .ok (.iaload, 1) := by decide +kernel
theorem dL_law_210 : decode code 210 = .ok (.aload_n 0, 1) := by decide +kernel
theorem dL_law_211 : decode code 211 = .ok (.iload_n 3, 1) := by decide +kernel
theorem dL_law_212 : decode code 212 = .ok (.iconst 2, 1) := by decide +kernel
theorem dL_law_213 : decode code 213 = .ok (.iadd, 1) := by decide +kernel
theorem dL_law_214 : decode code 214 = .ok (.iaload, 1) := by decide +kernel
theorem dL_law_215 : decode code 215 = .ok (.aload_n 0, 1) := by decide +kernel
theorem dL_law_216 : decode code 216 = .ok (.iload_n 3, 1) := by decide +kernel
theorem dL_law_217 : decode code 217 = .ok (.iconst 3, 1) := by decide +kernel
theorem dL_law_218 : decode code 218 = .ok (.iadd, 1) := by decide +kernel
theorem dL_law_219 : decode code 219 = .ok (.iaload, 1) := by decide +kernel
theorem dL_law_220 : decode code 220 = .ok (.aload_n 0, 1) := by decide +kernel
theorem dL_law_221 : decode code 221 = .ok (.iload_n 3, 1) := by decide +kernel
theorem dL_law_222 : decode code 222 = .ok (.iconst 4, 1) := by decide +kernel
theorem dL_law_223 : decode code 223 = .ok (.iadd, 1) := by decide +kernel
theorem dL_law_224 : decode code 224 = .ok (.iaload, 1) := by decide +kernel
theorem dL_law_225 : decode code 225 = .ok (.aload_n 0, 1) := by decide +kernel
theorem dL_law_226 : decode code 226 = .ok (.iload_n 3, 1) := by decide +kernel
theorem dL_law_227 : decode code 227 = .ok (.iconst 5, 1) := by decide +kernel
theorem dL_law_228 : decode code 228 = .ok (.iadd, 1) := by decide +kernel
theorem dL_law_229 : decode code 229 = .ok (.iaload, 1) := by decide +kernel
theorem dL_law_230 : decode code 230 = .ok (.invokevirtual 13, 3) := by decide +kernel
theorem dL_law_233 : decode code 233 = .ok (.pop, 1) := by decide +kernel
theorem dL_law_234 : decode code 234 = .ok (.aload_n 2, 1) := by decide +kernel
theorem dL_law_235 : decode code 235 = .ok (.aload_n 0, 1) := by decide +kernel
theorem dL_law_236 : decode code 236 = .ok (.iload_n 3, 1) := by decide +kernel
theorem dL_law_237 : decode code 237 = .ok (.iconst 1, 1) := by decide +kernel
theorem dL_law_238 : decode code 238 = .ok (.iadd, 1) := by decide +kernel
theorem dL_law_239 : decode code 239 = .ok (.iaload, 1) := by decide +kernel
theorem dL_law_240 : decode code 240 = .ok (.aload_n 0, 1) := by decide +kernel
theorem dL_law_241 : decode code 241 = .ok (.iload_n 3, 1) := by decide +kernel
theorem dL_law_242 : decode code 242 = .ok (.iconst 2, 1) := by decide +kernel
theorem dL_law_243 : decode code 243 = .ok (.iadd, 1) := by decide +kernel
theorem dL_law_244 : decode code 244 = .ok (.iaload, 1) := by decide +kernel
theorem dL_law_245 : decode code 245 = .ok (.aload_n 0, 1) := by decide +kernel
theorem dL_law_246 : decode code 246 = .ok (.iload_n 3, 1) := by decide +kernel
theorem dL_law_247 : decode code 247 = .ok (.iconst 3, 1) := by decide +kernel
theorem dL_law_248 : decode code 248 = .ok (.iadd, 1) := by decide +kernel
theorem dL_law_249 : decode code 249 = .ok (.iaload, 1) := by decide +kernel
theorem dL_law_250 : decode code 250 = .ok (.aload_n 0, 1) := by decide +kernel
theorem dL_law_251 : decode code 251 = .ok (.iload_n 3, 1) := by decide +kernel
theorem dL_law_252 : decode code 252 = .ok (.iconst 4, 1) := by decide +kernel
theorem dL_law_253 : decode code 253 = .ok (.iadd, 1) := by decide +kernel
theorem dL_law_254 : decode code 254 = .ok (.iaload, 1) := by decide +kernel
theorem dL_law_255 : decode code 255 = .ok (.aload_n 0, 1) := by decide +kernel
theorem dL_law_256 : decode code 256 = .ok (.iload_n 3, 1) := by decide +kernel
theorem dL_law_257 : decode code 257 = .ok (.iconst 5, 1) := by decide +kernel
theorem dL_law_258 : decode code 258 = .ok (.iadd, 1) := by decide +kernel
theorem dL_law_259 : decode code 259 = .ok (.iaload, 1) := by decide +kernel
theorem dL_law_260 : decode code 260 = .ok (.invokevirtual 17, 3) := by decide +kernel
theorem dL_law_263 : decode code 263 = .ok (.pop, 1) := by decide +kernel
theorem dL_law_264 : decode code 264 = .ok (.goto 1073, 3) := by decide +kernel
theorem dL_law_267 : decode code 267 = .ok (.aload_n 1, 1) := by decide +kernel
theorem dL_law_268 : decode code 268 = .ok (.aload_n 0, 1) := by decide +kernel
theorem dL_law_269 : decode code 269 = .ok (.iload_n 3, 1) := by decide +kernel
theorem dL_law_270 : decode code 270 = .ok (.iconst 1, 1) := by decide +kernel
theorem dL_law_271 : decode code 271 = .ok (.iadd, 1) := by decide +kernel
theorem dL_law_272 : decode code 272 = .ok (.iaload, 1) := by decide +kernel
theorem dL_law_273 : decode code 273 = .ok (.aload_n 0, 1) := by decide +kernel
theorem dL_law_274 : decode code 274 = .ok (.iload_n 3, 1) := by decide +kernel
theorem dL_law_275 : decode code 275 = .ok (.iconst 2, 1) := by decide +kernel
theorem dL_law_276 : decode code 276 = .ok (.iadd, 1) := by decide +kernel
theorem dL_law_277 : decode code 277 = .ok (.iaload, 1) := by decide +kernel
theorem dL_law_278 : decode code 278 = .ok (.invokevirtual 18, 3) := by decide +kernel
theorem dL_law_281 : decode code 281 = .ok (.pop, 1) := by decide +kernel
theorem dL_law_282 : decode code 282 = .ok (.aload_n 2, 1) := by decide +kernel
theorem dL_law_283 : decode code 283 = .ok (.aload_n 0, 1) := by decide +kernel
theorem dL_law_284 : decode code 284 = .ok (.iload_n 3, 1) := by decide +kernel
theorem dL_law_285 : decode code 285 = .ok (.iconst 1, 1) := by decide +kernel
theorem dL_law_286 : decode code 286 = .ok (.iadd, 1) := by decide +kernel
theorem dL_law_287 : decode code 287 = .ok (.iaload, 1) := by decide +kernel
theorem dL_law_288 : decode code 288 = .ok (.aload_n 0, 1) := by decide +kernel
theorem dL_law_289 : decode code 289 = .ok (.iload_n 3, 1) := by decide +kernel
theorem dL_law_290 : decode code 290 = .ok (.iconst 2, 1) := by decide +kernel
theorem dL_law_291 : decode code 291 = .ok (.iadd, 1) := by decide +kernel
theorem dL_law_292 : decode code 292 = .ok (.iaload, 1) := by decide +kernel
theorem dL_law_293 : decode code 293 = .ok (.invokevirtual 22, 3) := by decide +kernel
theorem dL_law_296 : decode code 296 = .ok (.pop, 1) := by decide +kernel
theorem dL_law_297 : decode code 297 = .ok (.goto 1040, 3) := by decide +kernel
theorem dL_law_300 : decode code 300 = .ok (.aload_n 1, 1) := by decide +kernel
theorem dL_law_301 : decode code 301 = .ok (.aload_n 0, 1) := by decide +kernel
theorem dL_law_302 : decode code 302 = .ok (.iload_n 3, 1) := by decide +kernel
theorem dL_law_303 : decode code 303 = .ok (.iconst 1, 1) := by decide +kernel
theorem dL_law_304 : decode code 304 = .ok (.iadd, 1) := by decide +kernel
theorem dL_law_305 : decode code 305 = .ok (.iaload, 1) := by decide +kernel
theorem dL_law_306 : decode code 306 = .ok (.aload_n 0, 1) := by decide +kernel
theorem dL_law_307 : decode code 307 = .ok (.iload_n 3, 1) := by decide +kernel
theorem dL_law_308 : decode code 308 = .ok (.iconst 2, 1) := by decide +kernel
theorem dL_law_309 : decode code 309 = .ok (.iadd, 1) := by decide +kernel
theorem dL_law_310 : decode code 310 = .ok (.iaload, 1) := by decide +kernel
theorem dL_law_311 : decode code 311 = .ok (.ifCond .eq 7, 3) := by decide +kernel
theorem dL_law_314 : decode code 314 = .ok (.iconst 1, 1) := by decide +kernel
theorem dL_law_315 : decode code 315 = .ok (.goto 4, 3) := by decide +kernel
theorem dL_law_318 : decode code 318 = .ok (.iconst 0, 1) := by decide +kernel
theorem dL_law_319 : decode code 319 = .ok (.invokevirtual 23, 3) := by decide +kernel
theorem dL_law_322 : decode code 322 = .ok (.pop, 1) := by decide +kernel
theorem dL_law_323 : decode code 323 = .ok (.aload_n 2, 1) := by decide +kernel
theorem dL_law_324 : decode code 324 = .ok (.aload_n 0, 1) := by decide +kernel
theorem dL_law_325 : decode code 325 = .ok (.iload_n 3, 1) := by decide +kernel
theorem dL_law_326 : decode code 326 = .ok (.iconst 1, 1) := by decide +kernel
theorem dL_law_327 : decode code 327 = .ok (.iadd, 1) := by decide +kernel
theorem dL_law_328 : decode code 328 = .ok (.iaload, 1) := by decide +kernel
theorem dL_law_329 : decode code 329 = .ok (.aload_n 0, 1) := by decide +kernel
theorem dL_law_330 : decode code 330 = .ok (.iload_n 3, 1) := by decide +kernel
theorem dL_law_331 : decode code 331 = .ok (.iconst 2, 1) := by decide +kernel
theorem dL_law_332 : decode code 332 = .ok (.iadd, 1) := by decide +kernel
theorem dL_law_333 : decode code 333 = .ok (.iaload, 1) := by decide +kernel
theorem dL_law_334 : decode code 334 = .ok (.ifCond .eq 7, 3) := by decide +kernel
theorem dL_law_337 : decode code 337 = .ok (.iconst 1, 1) := by decide +kernel
theorem dL_law_338 : decode code 338 = .ok (.goto 4, 3) := by decide +kernel
theorem dL_law_341 : decode code 341 = .ok (.iconst 0, 1) := by decide +kernel
theorem dL_law_342 : decode code 342 = .ok (.invokevirtual 27, 3) := by decide +kernel
theorem dL_law_345 : decode code 345 = .ok (.pop, 1) := by decide +kernel
theorem dL_law_346 : decode code 346 = .ok (.goto 991, 3) := by decide +kernel
theorem dL_law_349 : decode code 349 = .ok (.aload_n 1, 1) := by decide +kernel
theorem dL_law_350 : decode code 350 = .ok (.aload_n 0, 1) := by decide +kernel
theorem dL_law_351 : decode code 351 = .ok (.iload_n 3, 1) := by decide +kernel
theorem dL_law_352 : decode code 352 = .ok (.iconst 1, 1) := by decide +kernel
theorem dL_law_353 : decode code 353 = .ok (.iadd, 1) := by decide +kernel
theorem dL_law_354 : decode code 354 = .ok (.iaload, 1) := by decide +kernel
theorem dL_law_355 : decode code 355 = .ok (.aload_n 0, 1) := by decide +kernel
theorem dL_law_356 : decode code 356 = .ok (.iload_n 3, 1) := by decide +kernel
theorem dL_law_357 : decode code 357 = .ok (.iconst 2, 1) := by decide +kernel
theorem dL_law_358 : decode code 358 = .ok (.iadd, 1) := by decide +kernel
theorem dL_law_359 : decode code 359 = .ok (.iaload, 1) := by decide +kernel
theorem dL_law_360 : decode code 360 = .ok (.aload_n 0, 1) := by decide +kernel
theorem dL_law_361 : decode code 361 = .ok (.iload_n 3, 1) := by decide +kernel
theorem dL_law_362 : decode code 362 = .ok (.iconst 3, 1) := by decide +kernel
theorem dL_law_363 : decode code 363 = .ok (.iadd, 1) := by decide +kernel
theorem dL_law_364 : decode code 364 = .ok (.iaload, 1) := by decide +kernel
theorem dL_law_365 : decode code 365 = .ok (.invokevirtual 28, 3) := by decide +kernel
theorem dL_law_368 : decode code 368 = .ok (.pop, 1) := by decide +kernel
theorem dL_law_369 : decode code 369 = .ok (.aload_n 2, 1) := by decide +kernel
theorem dL_law_370 : decode code 370 = .ok (.aload_n 0, 1) := by decide +kernel
theorem dL_law_371 : decode code 371 = .ok (.iload_n 3, 1) := by decide +kernel
theorem dL_law_372 : decode code 372 = .ok (.iconst 1, 1) := by decide +kernel
theorem dL_law_373 : decode code 373 = .ok (.iadd, 1) := by decide +kernel
theorem dL_law_374 : decode code 374 = .ok (.iaload, 1) := by decide +kernel
theorem dL_law_375 : decode code 375 = .ok (.aload_n 0, 1) := by decide +kernel
theorem dL_law_376 : decode code 376 = .ok (.iload_n 3, 1) := by decide +kernel
theorem dL_law_377 : decode code 377 = .ok (.iconst 2, 1) := by decide +kernel
theorem dL_law_378 : decode code 378 = .ok (.iadd, 1) := by decide +kernel
theorem dL_law_379 : decode code 379 = .ok (.iaload, 1) := by decide +kernel
theorem dL_law_380 : decode code 380 = .ok (.aload_n 0, 1) := by decide +kernel
theorem dL_law_381 : decode code 381 = .ok (.iload_n 3, 1) := by decide +kernel
theorem dL_law_382 : decode code 382 = .ok (.iconst 3, 1) := by decide +kernel
theorem dL_law_383 : decode code 383 = .ok (.iadd, 1) := by decide +kernel
theorem dL_law_384 : decode code 384 = .ok (.iaload, 1) := by decide +kernel
theorem dL_law_385 : decode code 385 = .ok (.invokevirtual 32, 3) := by decide +kernel
theorem dL_law_388 : decode code 388 = .ok (.pop, 1) := by decide +kernel
theorem dL_law_389 : decode code 389 = .ok (.goto 948, 3) := by decide +kernel
theorem dL_law_392 : decode code 392 = .ok (.aload_n 1, 1) := by decide +kernel
theorem dL_law_393 : decode code 393 = .ok (.aload_n 0, 1) := by decide +kernel
theorem dL_law_394 : decode code 394 = .ok (.iload_n 3, 1) := by decide +kernel
theorem dL_law_395 : decode code 395 = .ok (.iconst 1, 1) := by decide +kernel
theorem dL_law_396 : decode code 396 = .ok (.iadd, 1) := by decide +kernel
theorem dL_law_397 : decode code 397 = .ok (.iaload, 1) := by decide +kernel
theorem dL_law_398 : decode code 398 = .ok (.aload_n 0, 1) := by decide +kernel
theorem dL_law_399 : decode code 399 = .ok (.iload_n 3, 1) := by decide +kernel
theorem dL_law_400 : decode code 400 = .ok (.iconst 2, 1) := by decide +kernel
theorem dL_law_401 : decode code 401 = .ok (.iadd, 1) := by decide +kernel
theorem dL_law_402 : decode code 402 = .ok (.iaload, 1) := by decide +kernel
theorem dL_law_403 : decode code 403 = .ok (.invokevirtual 33, 3) := by decide +kernel
theorem dL_law_406 : decode code 406 = .ok (.pop, 1) := by decide +kernel
theorem dL_law_407 : decode code 407 = .ok (.aload_n 2, 1) := by decide +kernel
theorem dL_law_408 : decode code 408 = .ok (.aload_n 0, 1) := by decide +kernel
theorem dL_law_409 : decode code 409 = .ok (.iload_n 3, 1) := by decide +kernel
theorem dL_law_410 : decode code 410 = .ok (.iconst 1, 1) := by decide +kernel
theorem dL_law_411 : decode code 411 = .ok (.iadd, 1) := by decide +kernel
theorem dL_law_412 : decode code 412 = .ok (.iaload, 1) := by decide +kernel
theorem dL_law_413 : decode code 413 = .ok (.aload_n 0, 1) := by decide +kernel
theorem dL_law_414 : decode code 414 = .ok (.iload_n 3, 1) := by decide +kernel
theorem dL_law_415 : decode code 415 = .ok (.iconst 2, 1) := by decide +kernel
theorem dL_law_416 : decode code 416 = .ok (.iadd, 1) := by decide +kernel
theorem dL_law_417 : decode code 417 = .ok (.iaload, 1) := by decide +kernel
theorem dL_law_418 : decode code 418 = .ok (.invokevirtual 36, 3) := by decide +kernel
theorem dL_law_421 : decode code 421 = .ok (.pop, 1) := by decide +kernel
theorem dL_law_422 : decode code 422 = .ok (.goto 915, 3) := by decide +kernel
theorem dL_law_425 : decode code 425 = .ok (.aload_n 1, 1) := by decide +kernel
theorem dL_law_426 : decode code 426 = .ok (.aload_n 0, 1) := by decide +kernel
theorem dL_law_427 : decode code 427 = .ok (.iload_n 3, 1) := by decide +kernel
theorem dL_law_428 : decode code 428 = .ok (.iconst 1, 1) := by decide +kernel
theorem dL_law_429 : decode code 429 = .ok (.iadd, 1) := by decide +kernel
theorem dL_law_430 : decode code 430 = .ok (.iaload, 1) := by decide +kernel
theorem dL_law_431 : decode code 431 = .ok (.aload_n 0, 1) := by decide +kernel
theorem dL_law_432 : decode code 432 = .ok (.iload_n 3, 1) := by decide +kernel
theorem dL_law_433 : decode code 433 = .ok (.iconst 2, 1) := by decide +kernel
theorem dL_law_434 : decode code 434 = .ok (.iadd, 1) := by decide +kernel
theorem dL_law_435 : decode code 435 = .ok (.iaload, 1) := by decide +kernel
theorem dL_law_436 : decode code 436 = .ok (.invokevirtual 37, 3) := by decide +kernel
theorem dL_law_439 : decode code 439 = .ok (.pop, 1) := by decide +kernel
theorem dL_law_440 : decode code 440 = .ok (.aload_n 2, 1) := by decide +kernel
theorem dL_law_441 : decode code 441 = .ok (.aload_n 0, 1) := by decide +kernel
theorem dL_law_442 : decode code 442 = .ok (.iload_n 3, 1) := by decide +kernel
theorem dL_law_443 : decode code 443 = .ok (.iconst 1, 1) := by decide +kernel
theorem dL_law_444 : decode code 444 = .ok (.iadd, 1) := by decide +kernel
theorem dL_law_445 : decode code 445 = .ok (.iaload, 1) := by decide +kernel
theorem dL_law_446 : decode code 446 = .ok (.aload_n 0, 1) := by decide +kernel
theorem dL_law_447 : decode code 447 = .ok (.iload_n 3, 1) := by decide +kernel
theorem dL_law_448 : decode code 448 = .ok (.iconst 2, 1) := by decide +kernel
theorem dL_law_449 : decode code 449 = .ok (.iadd, 1) := by decide +kernel
theorem dL_law_450 : decode code 450 = .ok (.iaload, 1) := by decide +kernel
theorem dL_law_451 : decode code 451 = .ok (.invokevirtual 40, 3) := by decide +kernel
theorem dL_law_454 : decode code 454 = .ok (.pop, 1) := by decide +kernel
theorem dL_law_455 : decode code 455 = .ok (.goto 882, 3) := by decide +kernel
theorem dL_law_458 : decode code 458 = .ok (.aload_n 1, 1) := by decide +kernel
theorem dL_law_459 : decode code 459 = .ok (.aload_n 0, 1) := by decide +kernel
theorem dL_law_460 : decode code 460 = .ok (.iload_n 3, 1) := by decide +kernel
theorem dL_law_461 : decode code 461 = .ok (.iconst 1, 1) := by decide +kernel
theorem dL_law_462 : decode code 462 = .ok (.iadd, 1) := by decide +kernel
theorem dL_law_463 : decode code 463 = .ok (.iaload, 1) := by decide +kernel
theorem dL_law_464 : decode code 464 = .ok (.invokevirtual 41, 3) := by decide +kernel
theorem dL_law_467 : decode code 467 = .ok (.pop, 1) := by decide +kernel
theorem dL_law_468 : decode code 468 = .ok (.aload_n 2, 1) := by decide +kernel
theorem dL_law_469 : decode code 469 = .ok (.aload_n 0, 1) := by decide +kernel
theorem dL_law_470 : decode code 470 = .ok (.iload_n 3, 1) := by decide +kernel
theorem dL_law_471 : decode code 471 = .ok (.iconst 1, 1) := by decide +kernel
theorem dL_law_472 : decode code 472 = .ok (.iadd, 1) := by decide +kernel
theorem dL_law_473 : decode code 473 = .ok (.iaload, 1) := by decide +kernel
theorem dL_law_474 : decode code 474 = .ok (.invokevirtual 45, 3) := by decide +kernel
theorem dL_law_477 : decode code 477 = .ok (.pop, 1) := by decide +kernel
theorem dL_law_478 : decode code 478 = .ok (.goto 859, 3) := by decide +kernel
theorem dL_law_481 : decode code 481 = .ok (.aload_n 1, 1) := by decide +kernel
theorem dL_law_482 : decode code 482 = .ok (.invokevirtual 46, 3) := by decide +kernel
theorem dL_law_485 : decode code 485 = .ok (.pop, 1) := by decide +kernel
theorem dL_law_486 : decode code 486 = .ok (.aload_n 2, 1) := by decide +kernel
theorem dL_law_487 : decode code 487 = .ok (.invokevirtual 50, 3) := by decide +kernel
theorem dL_law_490 : decode code 490 = .ok (.pop, 1) := by decide +kernel
theorem dL_law_491 : decode code 491 = .ok (.goto 846, 3) := by decide +kernel
theorem dL_law_494 : decode code 494 = .ok (.aload_n 1, 1) := by decide +kernel
theorem dL_law_495 : decode code 495 = .ok (.aload_n 0, 1) := by decide +kernel
theorem dL_law_496 : decode code 496 = .ok (.iload_n 3, 1) := by decide +kernel
theorem dL_law_497 : decode code 497 = .ok (.iconst 1, 1) := by decide +kernel
theorem dL_law_498 : decode code 498 = .ok (.iadd, 1) := by decide +kernel
theorem dL_law_499 : decode code 499 = .ok (.iaload, 1) := by decide +kernel
theorem dL_law_500 : decode code 500 = .ok (.invokevirtual 51, 3) := by decide +kernel
theorem dL_law_503 : decode code 503 = .ok (.pop, 1) := by decide +kernel
theorem dL_law_504 : decode code 504 = .ok (.aload_n 2, 1) := by decide +kernel
theorem dL_law_505 : decode code 505 = .ok (.aload_n 0, 1) := by decide +kernel
theorem dL_law_506 : decode code 506 = .ok (.iload_n 3, 1) := by decide +kernel
theorem dL_law_507 : decode code 507 = .ok (.iconst 1, 1) := by decide +kernel
theorem dL_law_508 : decode code 508 = .ok (.iadd, 1) := by decide +kernel
theorem dL_law_509 : decode code 509 = .ok (.iaload, 1) := by decide +kernel
theorem dL_law_510 : decode code 510 = .ok (.invokevirtual 54, 3) := by decide +kernel
theorem dL_law_513 : decode code 513 = .ok (.pop, 1) := by decide +kernel
theorem dL_law_514 : decode code 514 = .ok (.goto 823, 3) := by decide +kernel
theorem dL_law_517 : decode code 517 = .ok (.aload_n 1, 1) := by decide +kernel
theorem dL_law_518 : decode code 518 = .ok (.aload_n 0, 1) := by decide +kernel
theorem dL_law_519 : decode code 519 = .ok (.iload_n 3, 1) := by decide +kernel
theorem dL_law_520 : decode code 520 = .ok (.iconst 1, 1) := by decide +kernel
theorem dL_law_521 : decode code 521 = .ok (.iadd, 1) := by decide +kernel
theorem dL_law_522 : decode code 522 = .ok (.iaload, 1) := by decide +kernel
theorem dL_law_523 : decode code 523 = .ok (.invokevirtual 55, 3) := by decide +kernel
theorem dL_law_526 : decode code 526 = .ok (.pop, 1) := by decide +kernel
theorem dL_law_527 : decode code 527 = .ok (.aload_n 2, 1) := by decide +kernel
theorem dL_law_528 : decode code 528 = .ok (.aload_n 0, 1) := by decide +kernel
theorem dL_law_529 : decode code 529 = .ok (.iload_n 3, 1) := by decide +kernel
theorem dL_law_530 : decode code 530 = .ok (.iconst 1, 1) := by decide +kernel
theorem dL_law_531 : decode code 531 = .ok (.iadd, 1) := by decide +kernel
theorem dL_law_532 : decode code 532 = .ok (.iaload, 1) := by decide +kernel
theorem dL_law_533 : decode code 533 = .ok (.invokevirtual 58, 3) := by decide +kernel
theorem dL_law_536 : decode code 536 = .ok (.pop, 1) := by decide +kernel
theorem dL_law_537 : decode code 537 = .ok (.goto 800, 3) := by decide +kernel
theorem dL_law_540 : decode code 540 = .ok (.aload_n 1, 1) := by decide +kernel
theorem dL_law_541 : decode code 541 = .ok (.aload_n 0, 1) := by decide +kernel
theorem dL_law_542 : decode code 542 = .ok (.iload_n 3, 1) := by decide +kernel
theorem dL_law_543 : decode code 543 = .ok (.iconst 1, 1) := by decide +kernel
theorem dL_law_544 : decode code 544 = .ok (.iadd, 1) := by decide +kernel
theorem dL_law_545 : decode code 545 = .ok (.iaload, 1) := by decide +kernel
theorem dL_law_546 : decode code 546 = .ok (.invokevirtual 59, 3) := by decide +kernel
theorem dL_law_549 : decode code 549 = .ok (.aload_n 2, 1) := by decide +kernel
theorem dL_law_550 : decode code 550 = .ok (.aload_n 0, 1) := by decide +kernel
theorem dL_law_551 : decode code 551 = .ok (.iload_n 3, 1) := by decide +kernel
theorem dL_law_552 : decode code 552 = .ok (.iconst 1, 1) := by decide +kernel
theorem dL_law_553 : decode code 553 = .ok (.iadd, 1) := by decide +kernel
theorem dL_law_554 : decode code 554 = .ok (.iaload, 1) := by decide +kernel
theorem dL_law_555 : decode code 555 = .ok (.invokevirtual 62, 3) := by decide +kernel
theorem dL_law_558 : decode code 558 = .ok (.if_icmp .eq 779, 3) := by decide +kernel
theorem dL_law_563 : decode code 563 = .ok (.aload_n 1, 1) := by decide +kernel
theorem dL_law_564 : decode code 564 = .ok (.aload_n 0, 1) := by decide +kernel
theorem dL_law_565 : decode code 565 = .ok (.iload_n 3, 1) := by decide +kernel
theorem dL_law_566 : decode code 566 = .ok (.iconst 1, 1) := by decide +kernel
theorem dL_law_567 : decode code 567 = .ok (.iadd, 1) := by decide +kernel
theorem dL_law_568 : decode code 568 = .ok (.iaload, 1) := by decide +kernel
theorem dL_law_569 : decode code 569 = .ok (.invokevirtual 63, 3) := by decide +kernel
theorem dL_law_572 : decode code 572 = .ok (.pop, 1) := by decide +kernel
theorem dL_law_573 : decode code 573 = .ok (.aload_n 2, 1) := by decide +kernel
theorem dL_law_574 : decode code 574 = .ok (.aload_n 0, 1) := by decide +kernel
theorem dL_law_575 : decode code 575 = .ok (.iload_n 3, 1) := by decide +kernel
theorem dL_law_576 : decode code 576 = .ok (.iconst 1, 1) := by decide +kernel
theorem dL_law_577 : decode code 577 = .ok (.iadd, 1) := by decide +kernel
theorem dL_law_578 : decode code 578 = .ok (.iaload, 1) := by decide +kernel
theorem dL_law_579 : decode code 579 = .ok (.invokevirtual 66, 3) := by decide +kernel
theorem dL_law_582 : decode code 582 = .ok (.pop, 1) := by decide +kernel
theorem dL_law_583 : decode code 583 = .ok (.goto 754, 3) := by decide +kernel
theorem dL_law_586 : decode code 586 = .ok (.aload_n 1, 1) := by decide +kernel
theorem dL_law_587 : decode code 587 = .ok (.aload_n 0, 1) := by decide +kernel
theorem dL_law_588 : decode code 588 = .ok (.iload_n 3, 1) := by decide +kernel
theorem dL_law_589 : decode code 589 = .ok (.iconst 1, 1) := by decide +kernel
theorem dL_law_590 : decode code 590 = .ok (.iadd, 1) := by decide +kernel
theorem dL_law_591 : decode code 591 = .ok (.iaload, 1) := by decide +kernel
theorem dL_law_592 : decode code 592 = .ok (.invokevirtual 67, 3) := by decide +kernel
theorem dL_law_595 : decode code 595 = .ok (.pop, 1) := by decide +kernel
theorem dL_law_596 : decode code 596 = .ok (.aload_n 2, 1) := by decide +kernel
theorem dL_law_597 : decode code 597 = .ok (.aload_n 0, 1) := by decide +kernel
theorem dL_law_598 : decode code 598 = .ok (.iload_n 3, 1) := by decide +kernel
theorem dL_law_599 : decode code 599 = .ok (.iconst 1, 1) := by decide +kernel
theorem dL_law_600 : decode code 600 = .ok (.iadd, 1) := by decide +kernel
theorem dL_law_601 : decode code 601 = .ok (.iaload, 1) := by decide +kernel
theorem dL_law_602 : decode code 602 = .ok (.invokevirtual 70, 3) := by decide +kernel
theorem dL_law_605 : decode code 605 = .ok (.pop, 1) := by decide +kernel
theorem dL_law_606 : decode code 606 = .ok (.goto 731, 3) := by decide +kernel
theorem dL_law_609 : decode code 609 = .ok (.aload_n 1, 1) := by decide +kernel
theorem dL_law_610 : decode code 610 = .ok (.aload_n 0, 1) := by decide +kernel
theorem dL_law_611 : decode code 611 = .ok (.iload_n 3, 1) := by decide +kernel
theorem dL_law_612 : decode code 612 = .ok (.iconst 1, 1) := by decide +kernel
theorem dL_law_613 : decode code 613 = .ok (.iadd, 1) := by decide +kernel
theorem dL_law_614 : decode code 614 = .ok (.iaload, 1) := by decide +kernel
theorem dL_law_615 : decode code 615 = .ok (.invokevirtual 71, 3) := by decide +kernel
theorem dL_law_618 : decode code 618 = .ok (.pop, 1) := by decide +kernel
theorem dL_law_619 : decode code 619 = .ok (.aload_n 2, 1) := by decide +kernel
theorem dL_law_620 : decode code 620 = .ok (.aload_n 0, 1) := by decide +kernel
theorem dL_law_621 : decode code 621 = .ok (.iload_n 3, 1) := by decide +kernel
theorem dL_law_622 : decode code 622 = .ok (.iconst 1, 1) := by decide +kernel
theorem dL_law_623 : decode code 623 = .ok (.iadd, 1) := by decide +kernel
theorem dL_law_624 : decode code 624 = .ok (.iaload, 1) := by decide +kernel
theorem dL_law_625 : decode code 625 = .ok (.invokevirtual 74, 3) := by decide +kernel
theorem dL_law_628 : decode code 628 = .ok (.pop, 1) := by decide +kernel
theorem dL_law_629 : decode code 629 = .ok (.goto 708, 3) := by decide +kernel
theorem dL_law_632 : decode code 632 = .ok (.aload_n 1, 1) := by decide +kernel
theorem dL_law_633 : decode code 633 = .ok (.aload_n 0, 1) := by decide +kernel
theorem dL_law_634 : decode code 634 = .ok (.iload_n 3, 1) := by decide +kernel
theorem dL_law_635 : decode code 635 = .ok (.iconst 1, 1) := by decide +kernel
theorem dL_law_636 : decode code 636 = .ok (.iadd, 1) := by decide +kernel
theorem dL_law_637 : decode code 637 = .ok (.iaload, 1) := by decide +kernel
theorem dL_law_638 : decode code 638 = .ok (.invokevirtual 75, 3) := by decide +kernel
theorem dL_law_641 : decode code 641 = .ok (.pop, 1) := by decide +kernel
theorem dL_law_642 : decode code 642 = .ok (.aload_n 2, 1) := by decide +kernel
theorem dL_law_643 : decode code 643 = .ok (.aload_n 0, 1) := by decide +kernel
theorem dL_law_644 : decode code 644 = .ok (.iload_n 3, 1) := by decide +kernel
theorem dL_law_645 : decode code 645 = .ok (.iconst 1, 1) := by decide +kernel
theorem dL_law_646 : decode code 646 = .ok (.iadd, 1) := by decide +kernel
theorem dL_law_647 : decode code 647 = .ok (.iaload, 1) := by decide +kernel
theorem dL_law_648 : decode code 648 = .ok (.invokevirtual 78, 3) := by decide +kernel
theorem dL_law_651 : decode code 651 = .ok (.pop, 1) := by decide +kernel
theorem dL_law_652 : decode code 652 = .ok (.goto 685, 3) := by decide +kernel
theorem dL_law_655 : decode code 655 = .ok (.aload_n 1, 1) := by decide +kernel
theorem dL_law_656 : decode code 656 = .ok (.invokevirtual 79, 3) := by decide +kernel
theorem dL_law_659 : decode code 659 = .ok (.pop, 1) := by decide +kernel
theorem dL_law_660 : decode code 660 = .ok (.aload_n 2, 1) := by decide +kernel
theorem dL_law_661 : decode code 661 = .ok (.invokevirtual 82, 3) := by decide +kernel
theorem dL_law_664 : decode code 664 = .ok (.pop, 1) := by decide +kernel
theorem dL_law_665 : decode code 665 = .ok (.goto 672, 3) := by decide +kernel
theorem dL_law_668 : decode code 668 = .ok (.aload_n 1, 1) := by decide +kernel
theorem dL_law_669 : decode code 669 = .ok (.aload_n 0, 1) := by decide +kernel
theorem dL_law_670 : decode code 670 = .ok (.iload_n 3, 1) := by decide +kernel
theorem dL_law_671 : decode code 671 = .ok (.iconst 1, 1) := by decide +kernel
theorem dL_law_672 : decode code 672 = .ok (.iadd, 1) := by decide +kernel
theorem dL_law_673 : decode code 673 = .ok (.iaload, 1) := by decide +kernel
theorem dL_law_674 : decode code 674 = .ok (.invokevirtual 83, 3) := by decide +kernel
theorem dL_law_677 : decode code 677 = .ok (.pop, 1) := by decide +kernel
theorem dL_law_678 : decode code 678 = .ok (.aload_n 2, 1) := by decide +kernel
theorem dL_law_679 : decode code 679 = .ok (.aload_n 0, 1) := by decide +kernel
theorem dL_law_680 : decode code 680 = .ok (.iload_n 3, 1) := by decide +kernel
theorem dL_law_681 : decode code 681 = .ok (.iconst 1, 1) := by decide +kernel
theorem dL_law_682 : decode code 682 = .ok (.iadd, 1) := by decide +kernel
theorem dL_law_683 : decode code 683 = .ok (.iaload, 1) := by decide +kernel
theorem dL_law_684 : decode code 684 = .ok (.invokevirtual 86, 3) := by decide +kernel
theorem dL_law_687 : decode code 687 = .ok (.pop, 1) := by decide +kernel
theorem dL_law_688 : decode code 688 = .ok (.goto 649, 3) := by decide +kernel
theorem dL_law_691 : decode code 691 = .ok (.aload_n 1, 1) := by decide +kernel
theorem dL_law_692 : decode code 692 = .ok (.invokevirtual 87, 3) := by decide +kernel
theorem dL_law_695 : decode code 695 = .ok (.pop, 1) := by decide +kernel
theorem dL_law_696 : decode code 696 = .ok (.aload_n 2, 1) := by decide +kernel
theorem dL_law_697 : decode code 697 = .ok (.invokevirtual 90, 3) := by decide +kernel
theorem dL_law_700 : decode code 700 = .ok (.pop, 1) := by decide +kernel
theorem dL_law_701 : decode code 701 = .ok (.goto 636, 3) := by decide +kernel
theorem dL_law_704 : decode code 704 = .ok (.aload_n 1, 1) := by decide +kernel
theorem dL_law_705 : decode code 705 = .ok (.aload_n 0, 1) := by decide +kernel
theorem dL_law_706 : decode code 706 = .ok (.iload_n 3, 1) := by decide +kernel
theorem dL_law_707 : decode code 707 = .ok (.iconst 1, 1) := by decide +kernel
theorem dL_law_708 : decode code 708 = .ok (.iadd, 1) := by decide +kernel
theorem dL_law_709 : decode code 709 = .ok (.iaload, 1) := by decide +kernel
theorem dL_law_710 : decode code 710 = .ok (.invokevirtual 91, 3) := by decide +kernel
theorem dL_law_713 : decode code 713 = .ok (.pop, 1) := by decide +kernel
theorem dL_law_714 : decode code 714 = .ok (.aload_n 2, 1) := by decide +kernel
theorem dL_law_715 : decode code 715 = .ok (.aload_n 0, 1) := by decide +kernel
theorem dL_law_716 : decode code 716 = .ok (.iload_n 3, 1) := by decide +kernel
theorem dL_law_717 : decode code 717 = .ok (.iconst 1, 1) := by decide +kernel
theorem dL_law_718 : decode code 718 = .ok (.iadd, 1) := by decide +kernel
theorem dL_law_719 : decode code 719 = .ok (.iaload, 1) := by decide +kernel
theorem dL_law_720 : decode code 720 = .ok (.invokevirtual 94, 3) := by decide +kernel
theorem dL_law_723 : decode code 723 = .ok (.pop, 1) := by decide +kernel
theorem dL_law_724 : decode code 724 = .ok (.goto 613, 3) := by decide +kernel
theorem dL_law_727 : decode code 727 = .ok (.aload_n 1, 1) := by decide +kernel
theorem dL_law_728 : decode code 728 = .ok (.aload_n 0, 1) := by decide +kernel
theorem dL_law_729 : decode code 729 = .ok (.iload_n 3, 1) := by decide +kernel
theorem dL_law_730 : decode code 730 = .ok (.iconst 1, 1) := by decide +kernel
theorem dL_law_731 : decode code 731 = .ok (.iadd, 1) := by decide +kernel
theorem dL_law_732 : decode code 732 = .ok (.iaload, 1) := by decide +kernel
theorem dL_law_733 : decode code 733 = .ok (.invokevirtual 95, 3) := by decide +kernel
theorem dL_law_736 : decode code 736 = .ok (.pop, 1) := by decide +kernel
theorem dL_law_737 : decode code 737 = .ok (.aload_n 2, 1) := by decide +kernel
theorem dL_law_738 : decode code 738 = .ok (.aload_n 0, 1) := by decide +kernel
theorem dL_law_739 : decode code 739 = .ok (.iload_n 3, 1) := by decide +kernel
theorem dL_law_740 : decode code 740 = .ok (.iconst 1, 1) := by decide +kernel
theorem dL_law_741 : decode code 741 = .ok (.iadd, 1) := by decide +kernel
theorem dL_law_742 : decode code 742 = .ok (.iaload, 1) := by decide +kernel
theorem dL_law_743 : decode code 743 = .ok (.invokevirtual 98, 3) := by decide +kernel
theorem dL_law_746 : decode code 746 = .ok (.pop, 1) := by decide +kernel
theorem dL_law_747 : decode code 747 = .ok (.goto 590, 3) := by decide +kernel
theorem dL_law_750 : decode code 750 = .ok (.aload_n 1, 1) := by decide +kernel
theorem dL_law_751 : decode code 751 = .ok (.aload_n 0, 1) := by decide +kernel
theorem dL_law_752 : decode code 752 = .ok (.iload_n 3, 1) := by decide +kernel
theorem dL_law_753 : decode code 753 = .ok (.iconst 1, 1) := by decide +kernel
theorem dL_law_754 : decode code 754 = .ok (.iadd, 1) := by decide +kernel
theorem dL_law_755 : decode code 755 = .ok (.iaload, 1) := by decide +kernel
theorem dL_law_756 : decode code 756 = .ok (.invokevirtual 99, 3) := by decide +kernel
theorem dL_law_759 : decode code 759 = .ok (.pop, 1) := by decide +kernel
theorem dL_law_760 : decode code 760 = .ok (.aload_n 2, 1) := by decide +kernel
theorem dL_law_761 : decode code 761 = .ok (.aload_n 0, 1) := by decide +kernel
theorem dL_law_762 : decode code 762 = .ok (.iload_n 3, 1) := by decide +kernel
theorem dL_law_763 : decode code 763 = .ok (.iconst 1, 1) := by decide +kernel
theorem dL_law_764 : decode code 764 = .ok (.iadd, 1) := by decide +kernel
theorem dL_law_765 : decode code 765 = .ok (.iaload, 1) := by decide +kernel
theorem dL_law_766 : decode code 766 = .ok (.invokevirtual 102, 3) := by decide +kernel
theorem dL_law_769 : decode code 769 = .ok (.pop, 1) := by decide +kernel
theorem dL_law_770 : decode code 770 = .ok (.goto 567, 3) := by decide +kernel
theorem dL_law_773 : decode code 773 = .ok (.aload_n 1, 1) := by decide +kernel
theorem dL_law_774 : decode code 774 = .ok (.aload_n 0, 1) := by decide +kernel
theorem dL_law_775 : decode code 775 = .ok (.iload_n 3, 1) := by decide +kernel
theorem dL_law_776 : decode code 776 = .ok (.iconst 1, 1) := by decide +kernel
theorem dL_law_777 : decode code 777 = .ok (.iadd, 1) := by decide +kernel
theorem dL_law_778 : decode code 778 = .ok (.iaload, 1) := by decide +kernel
theorem dL_law_779 : decode code 779 = .ok (.invokevirtual 103, 3) := by decide +kernel
theorem dL_law_782 : decode code 782 = .ok (.pop, 1) := by decide +kernel
theorem dL_law_783 : decode code 783 = .ok (.aload_n 2, 1) := by decide +kernel
theorem dL_law_784 : decode code 784 = .ok (.aload_n 0, 1) := by decide +kernel
theorem dL_law_785 : decode code 785 = .ok (.iload_n 3, 1) := by decide +kernel
theorem dL_law_786 : decode code 786 = .ok (.iconst 1, 1) := by decide +kernel
theorem dL_law_787 : decode code 787 = .ok (.iadd, 1) := by decide +kernel
theorem dL_law_788 : decode code 788 = .ok (.iaload, 1) := by decide +kernel
theorem dL_law_789 : decode code 789 = .ok (.invokevirtual 106, 3) := by decide +kernel
theorem dL_law_792 : decode code 792 = .ok (.pop, 1) := by decide +kernel
theorem dL_law_793 : decode code 793 = .ok (.goto 544, 3) := by decide +kernel
theorem dL_law_796 : decode code 796 = .ok (.aload_n 1, 1) := by decide +kernel
theorem dL_law_797 : decode code 797 = .ok (.aload_n 0, 1) := by decide +kernel
theorem dL_law_798 : decode code 798 = .ok (.iload_n 3, 1) := by decide +kernel
theorem dL_law_799 : decode code 799 = .ok (.iconst 1, 1) := by decide +kernel
theorem dL_law_800 : decode code 800 = .ok (.iadd, 1) := by decide +kernel
theorem dL_law_801 : decode code 801 = .ok (.iaload, 1) := by decide +kernel
theorem dL_law_802 : decode code 802 = .ok (.aload_n 0, 1) := by decide +kernel
theorem dL_law_803 : decode code 803 = .ok (.iload_n 3, 1) := by decide +kernel
theorem dL_law_804 : decode code 804 = .ok (.iconst 2, 1) := by decide +kernel
theorem dL_law_805 : decode code 805 = .ok (.iadd, 1) := by decide +kernel
theorem dL_law_806 : decode code 806 = .ok (.iaload, 1) := by decide +kernel
theorem dL_law_807 : decode code 807 = .ok (.invokevirtual 107, 3) := by decide +kernel
theorem dL_law_810 : decode code 810 = .ok (.pop, 1) := by decide +kernel
theorem dL_law_811 : decode code 811 = .ok (.aload_n 2, 1) := by decide +kernel
theorem dL_law_812 : decode code 812 = .ok (.aload_n 0, 1) := by decide +kernel
theorem dL_law_813 : decode code 813 = .ok (.iload_n 3, 1) := by decide +kernel
theorem dL_law_814 : decode code 814 = .ok (.iconst 1, 1) := by decide +kernel
theorem dL_law_815 : decode code 815 = .ok (.iadd, 1) := by decide +kernel
theorem dL_law_816 : decode code 816 = .ok (.iaload, 1) := by decide +kernel
theorem dL_law_817 : decode code 817 = .ok (.aload_n 0, 1) := by decide +kernel
theorem dL_law_818 : decode code 818 = .ok (.iload_n 3, 1) := by decide +kernel
theorem dL_law_819 : decode code 819 = .ok (.iconst 2, 1) := by decide +kernel
theorem dL_law_820 : decode code 820 = .ok (.iadd, 1) := by decide +kernel
theorem dL_law_821 : decode code 821 = .ok (.iaload, 1) := by decide +kernel
theorem dL_law_822 : decode code 822 = .ok (.invokevirtual 110, 3) := by decide +kernel
theorem dL_law_825 : decode code 825 = .ok (.pop, 1) := by decide +kernel
theorem dL_law_826 : decode code 826 = .ok (.goto 511, 3) := by decide +kernel
theorem dL_law_829 : decode code 829 = .ok (.aload_n 1, 1) := by decide +kernel
theorem dL_law_830 : decode code 830 = .ok (.invokevirtual 111, 3) := by decide +kernel
theorem dL_law_833 : decode code 833 = .ok (.pop, 1) := by decide +kernel
theorem dL_law_834 : decode code 834 = .ok (.aload_n 2, 1) := by decide +kernel
theorem dL_law_835 : decode code 835 = .ok (.invokevirtual 114, 3) := by decide +kernel
theorem dL_law_838 : decode code 838 = .ok (.pop, 1) := by decide +kernel
theorem dL_law_839 : decode code 839 = .ok (.goto 498, 3) := by decide +kernel
theorem dL_law_842 : decode code 842 = .ok (.aload_n 1, 1) := by decide +kernel
theorem dL_law_843 : decode code 843 = .ok (.aload_n 0, 1) := by decide +kernel
theorem dL_law_844 : decode code 844 = .ok (.iload_n 3, 1) := by decide +kernel
theorem dL_law_845 : decode code 845 = .ok (.iconst 1, 1) := by decide +kernel
theorem dL_law_846 : decode code 846 = .ok (.iadd, 1) := by decide +kernel
theorem dL_law_847 : decode code 847 = .ok (.iaload, 1) := by decide +kernel
theorem dL_law_848 : decode code 848 = .ok (.aload_n 0, 1) := by decide +kernel
theorem dL_law_849 : decode code 849 = .ok (.iload_n 3, 1) := by decide +kernel
theorem dL_law_850 : decode code 850 = .ok (.iconst 2, 1) := by decide +kernel
theorem dL_law_851 : decode code 851 = .ok (.iadd, 1) := by decide +kernel
theorem dL_law_852 : decode code 852 = .ok (.iaload, 1) := by decide +kernel
theorem dL_law_853 : decode code 853 = .ok (.invokevirtual 115, 3) := by decide +kernel
theorem dL_law_856 : decode code 856 = .ok (.pop2, 1) := by decide +kernel
theorem dL_law_857 : decode code 857 = .ok (.aload_n 2, 1) := by decide +kernel
theorem dL_law_858 : decode code 858 = .ok (.aload_n 0, 1) := by decide +kernel
theorem dL_law_859 : decode code 859 = .ok (.iload_n 3, 1) := by decide +kernel
theorem dL_law_860 : decode code 860 = .ok (.iconst 1, 1) := by decide +kernel
theorem dL_law_861 : decode code 861 = .ok (.iadd, 1) := by decide +kernel
theorem dL_law_862 : decode code 862 = .ok (.iaload, 1) := by decide +kernel
theorem dL_law_863 : decode code 863 = .ok (.aload_n 0, 1) := by decide +kernel
theorem dL_law_864 : decode code 864 = .ok (.iload_n 3, 1) := by decide +kernel
theorem dL_law_865 : decode code 865 = .ok (.iconst 2, 1) := by decide +kernel
theorem dL_law_866 : decode code 866 = .ok (.iadd, 1) := by decide +kernel
theorem dL_law_867 : decode code 867 = .ok (.iaload, 1) := by decide +kernel
theorem dL_law_868 : decode code 868 = .ok (.invokevirtual 119, 3) := by decide +kernel
theorem dL_law_871 : decode code 871 = .ok (.pop2, 1) := by decide +kernel
theorem dL_law_872 : decode code 872 = .ok (.goto 465, 3) := by decide +kernel
theorem dL_law_875 : decode code 875 = .ok (.aload_n 1, 1) := by decide +kernel
theorem dL_law_876 : decode code 876 = .ok (.aload_n 0, 1) := by decide +kernel
theorem dL_law_877 : decode code 877 = .ok (.iload_n 3, 1) := by decide +kernel
theorem dL_law_878 : decode code 878 = .ok (.iconst 1, 1) := by decide +kernel
theorem dL_law_879 : decode code 879 = .ok (.iadd, 1) := by decide +kernel
theorem dL_law_880 : decode code 880 = .ok (.iaload, 1) := by decide +kernel
theorem dL_law_881 : decode code 881 = .ok (.invokevirtual 120, 3) := by decide +kernel
theorem dL_law_884 : decode code 884 = .ok (.pop2, 1) := by decide +kernel
theorem dL_law_885 : decode code 885 = .ok (.aload_n 2, 1) := by decide +kernel
theorem dL_law_886 : decode code 886 = .ok (.aload_n 0, 1) := by decide +kernel
theorem dL_law_887 : decode code 887 = .ok (.iload_n 3, 1) := by decide +kernel
theorem dL_law_888 : decode code 888 = .ok (.iconst 1, 1) := by decide +kernel
theorem dL_law_889 : decode code 889 = .ok (.iadd, 1) := by decide +kernel
theorem dL_law_890 : decode code 890 = .ok (.iaload, 1) := by decide +kernel
theorem dL_law_891 : decode code 891 = .ok (.invokevirtual 124, 3) := by decide +kernel
theorem dL_law_894 : decode code 894 = .ok (.pop2, 1) := by decide +kernel
theorem dL_law_895 : decode code 895 = .ok (.goto 442, 3) := by decide +kernel
theorem dL_law_898 : decode code 898 = .ok (.aload_n 1, 1) := by decide +kernel
theorem dL_law_899 : decode code 899 = .ok (.aload_n 0, 1) := by decide +kernel
theorem dL_law_900 : decode code 900 = .ok (.iload_n 3, 1) := by decide +kernel
theorem dL_law_901 : decode code 901 = .ok (.iconst 1, 1) := by decide +kernel
theorem dL_law_902 : decode code 902 = .ok (.iadd, 1) := by decide +kernel
theorem dL_law_903 : decode code 903 = .ok (.iaload, 1) := by decide +kernel
theorem dL_law_904 : decode code 904 = .ok (.aload_n 0, 1) := by decide +kernel
theorem dL_law_905 : decode code 905 = .ok (.iload_n 3, 1) := by decide +kernel
theorem dL_law_906 : decode code 906 = .ok (.iconst 2, 1) := by decide +kernel
theorem dL_law_907 : decode code 907 = .ok (.iadd, 1) := by decide +kernel
theorem dL_law_908 : decode code 908 = .ok (.iaload, 1) := by decide +kernel
theorem dL_law_909 : decode code 909 = .ok (.invokevirtual 125, 3) := by decide +kernel
theorem dL_law_912 : decode code 912 = .ok (.pop, 1) := by decide +kernel
theorem dL_law_913 : decode code 913 = .ok (.aload_n 2, 1) := by decide +kernel
theorem dL_law_914 : decode code 914 = .ok (.aload_n 0, 1) := by decide +kernel
theorem dL_law_915 : decode code 915 = .ok (.iload_n 3, 1) := by decide +kernel
theorem dL_law_916 : decode code 916 = .ok (.iconst 1, 1) := by decide +kernel
theorem dL_law_917 : decode code 917 = .ok (.iadd, 1) := by decide +kernel
theorem dL_law_918 : decode code 918 = .ok (.iaload, 1) := by decide +kernel
theorem dL_law_919 : decode code 919 = .ok (.aload_n 0, 1) := by decide +kernel
theorem dL_law_920 : decode code 920 = .ok (.iload_n 3, 1) := by decide +kernel
theorem dL_law_921 : decode code 921 = .ok (.iconst 2, 1) := by decide +kernel
theorem dL_law_922 : decode code 922 = .ok (.iadd, 1) := by decide +kernel
theorem dL_law_923 : decode code 923 = .ok (.iaload, 1) := by decide +kernel
theorem dL_law_924 : decode code 924 = .ok (.invokevirtual 128, 3) := by decide +kernel
theorem dL_law_927 : decode code 927 = .ok (.pop, 1) := by decide +kernel
theorem dL_law_928 : decode code 928 = .ok (.goto 409, 3) := by decide +kernel
theorem dL_law_931 : decode code 931 = .ok (.aload_n 1, 1) := by decide +kernel
theorem dL_law_932 : decode code 932 = .ok (.invokevirtual 129, 3) := by decide +kernel
theorem dL_law_935 : decode code 935 = .ok (.pop, 1) := by decide +kernel
theorem dL_law_936 : decode code 936 = .ok (.aload_n 2, 1) := by decide +kernel
theorem dL_law_937 : decode code 937 = .ok (.invokevirtual 132, 3) := by decide +kernel
theorem dL_law_940 : decode code 940 = .ok (.pop, 1) := by decide +kernel
theorem dL_law_941 : decode code 941 = .ok (.goto 396, 3) := by decide +kernel
theorem dL_law_944 : decode code 944 = .ok (.aload_n 1, 1) := by decide +kernel
theorem dL_law_945 : decode code 945 = .ok (.aload_n 0, 1) := by decide +kernel
theorem dL_law_946 : decode code 946 = .ok (.iload_n 3, 1) := by decide +kernel
theorem dL_law_947 : decode code 947 = .ok (.iconst 1, 1) := by decide +kernel
theorem dL_law_948 : decode code 948 = .ok (.iadd, 1) := by decide +kernel
theorem dL_law_949 : decode code 949 = .ok (.iaload, 1) := by decide +kernel
theorem dL_law_950 : decode code 950 = .ok (.aload_n 0, 1) := by decide +kernel
theorem dL_law_951 : decode code 951 = .ok (.iload_n 3, 1) := by decide +kernel
theorem dL_law_952 : decode code 952 = .ok (.iconst 2, 1) := by decide +kernel
theorem dL_law_953 : decode code 953 = .ok (.iadd, 1) := by decide +kernel
theorem dL_law_954 : decode code 954 = .ok (.iaload, 1) := by decide +kernel
theorem dL_law_955 : decode code 955 = .ok (.invokevirtual 133, 3) := by decide +kernel
theorem dL_law_958 : decode code 958 = .ok (.pop, 1) := by decide +kernel
theorem dL_law_959 : decode code 959 = .ok (.aload_n 2, 1) := by decide +kernel
theorem dL_law_960 : decode code 960 = .ok (.aload_n 0, 1) := by decide +kernel
theorem dL_law_961 : decode code 961 = .ok (.iload_n 3, 1) := by decide +kernel
theorem dL_law_962 : decode code 962 = .ok (.iconst 1, 1) := by decide +kernel
theorem dL_law_963 : decode code 963 = .ok (.iadd, 1) := by decide +kernel
theorem dL_law_964 : decode code 964 = .ok (.iaload, 1) := by decide +kernel
theorem dL_law_965 : decode code 965 = .ok (.aload_n 0, 1) := by decide +kernel
theorem dL_law_966 : decode code 966 = .ok (.iload_n 3, 1) := by decide +kernel
theorem dL_law_967 : decode code 967 = .ok (.iconst 2, 1) := by decide +kernel
theorem dL_law_968 : decode code 968 = .ok (.iadd, 1) := by decide +kernel
theorem dL_law_969 : decode code 969 = .ok (.iaload, 1) := by decide +kernel
theorem dL_law_970 : decode code 970 = .ok (.invokevirtual 136, 3) := by decide +kernel
theorem dL_law_973 : decode code 973 = .ok (.pop, 1) := by decide +kernel
theorem dL_law_974 : decode code 974 = .ok (.goto 363, 3) := by decide +kernel
theorem dL_law_977 : decode code 977 = .ok (.aload_n 1, 1) := by decide +kernel
theorem dL_law_978 : decode code 978 = .ok (.invokevirtual 137, 3) := by decide +kernel
theorem dL_law_981 : decode code 981 = .ok (.pop, 1) := by decide +kernel
theorem dL_law_982 : decode code 982 = .ok (.aload_n 2, 1) := by decide +kernel
theorem dL_law_983 : decode code 983 = .ok (.invokevirtual 140, 3) := by decide +kernel
theorem dL_law_986 : decode code 986 = .ok (.pop, 1) := by decide +kernel
theorem dL_law_987 : decode code 987 = .ok (.goto 350, 3) := by decide +kernel
theorem dL_law_990 : decode code 990 = .ok (.aload_n 1, 1) := by decide +kernel
theorem dL_law_991 : decode code 991 = .ok (.invokevirtual 141, 3) := by decide +kernel
theorem dL_law_994 : decode code 994 = .ok (.pop, 1) := by decide +kernel
theorem dL_law_995 : decode code 995 = .ok (.aload_n 2, 1) := by decide +kernel
theorem dL_law_996 : decode code 996 = .ok (.invokevirtual 144, 3) := by decide +kernel
theorem dL_law_999 : decode code 999 = .ok (.pop, 1) := by decide +kernel
theorem dL_law_1000 : decode code 1000 = .ok (.goto 337, 3) := by decide +kernel
theorem dL_law_1003 : decode code 1003 = .ok (.aload_n 1, 1) := by decide +kernel
theorem dL_law_1004 : decode code 1004 = .ok (.aload_n 0, 1) := by decide +kernel
theorem dL_law_1005 : decode code 1005 = .ok (.iload_n 3, 1) := by decide +kernel
theorem dL_law_1006 : decode code 1006 = .ok (.iconst 1, 1) := by decide +kernel
theorem dL_law_1007 : decode code 1007 = .ok (.iadd, 1) := by decide +kernel
theorem dL_law_1008 : decode code 1008 = .ok (.iaload, 1) := by decide +kernel
theorem dL_law_1009 : decode code 1009 = .ok (.aload_n 0, 1) := by decide +kernel
theorem dL_law_1010 : decode code 1010 = .ok (.iload_n 3, 1) := by decide +kernel
theorem dL_law_1011 : decode code 1011 = .ok (.iconst 2, 1) := by decide +kernel
theorem dL_law_1012 : decode code 1012 = .ok (.iadd, 1) := by decide +kernel
theorem dL_law_1013 : decode code 1013 = .ok (.iaload, 1) := by decide +kernel
theorem dL_law_1014 : decode code 1014 = .ok (.aload_n 0, 1) := by decide +kernel
theorem dL_law_1015 : decode code 1015 = .ok (.iload_n 3, 1) := by decide +kernel
theorem dL_law_1016 : decode code 1016 = .ok (.iconst 3, 1) := by decide +kernel
theorem dL_law_1017 : decode code 1017 = .ok (.iadd, 1) := by decide +kernel
theorem dL_law_1018 : decode code 1018 = .ok (.iaload, 1) := by decide +kernel
theorem dL_law_1019 : decode code 1019 = .ok (.invokevirtual 145, 3) := by decide +kernel
theorem dL_law_1022 : decode code 1022 = .ok (.pop, 1) := by decide +kernel
theorem dL_law_1023 : decode code 1023 = .ok (.aload_n 2, 1) := by decide +kernel
theorem dL_law_1024 : decode code 1024 = .ok (.aload_n 0, 1) := by decide +kernel
theorem dL_law_1025 : decode code 1025 = .ok (.iload_n 3, 1) := by decide +kernel
theorem dL_law_1026 : decode code 1026 = .ok (.iconst 1, 1) := by decide +kernel
theorem dL_law_1027 : decode code 1027 = .ok (.iadd, 1) := by decide +kernel
theorem dL_law_1028 : decode code 1028 = .ok (.iaload, 1) := by decide +kernel
theorem dL_law_1029 : decode code 1029 = .ok (.aload_n 0, 1) := by decide +kernel
theorem dL_law_1030 : decode code 1030 = .ok (.iload_n 3, 1) := by decide +kernel
theorem dL_law_1031 : decode code 1031 = .ok (.iconst 2, 1) := by decide +kernel
theorem dL_law_1032 : decode code 1032 = .ok (.iadd, 1) := by decide +kernel
theorem dL_law_1033 : decode code 1033 = .ok (.iaload, 1) := by decide +kernel
theorem dL_law_1034 : decode code 1034 = .ok (.aload_n 0, 1) := by decide +kernel
theorem dL_law_1035 : decode code 1035 = .ok (.iload_n 3, 1) := by decide +kernel
theorem dL_law_1036 : decode code 1036 = .ok (.iconst 3, 1) := by decide +kernel
theorem dL_law_1037 : decode code 1037 = .ok (.iadd, 1) := by decide +kernel
theorem dL_law_1038 : decode code 1038 = .ok (.iaload, 1) := by decide +kernel
theorem dL_law_1039 : decode code 1039 = .ok (.invokevirtual 148, 3) := by decide +kernel
theorem dL_law_1042 : decode code 1042 = .ok (.pop, 1) := by decide +kernel
theorem dL_law_1043 : decode code 1043 = .ok (.goto 294, 3) := by decide +kernel
theorem dL_law_1046 : decode code 1046 = .ok (.aload_n 1, 1) := by decide +kernel
theorem dL_law_1047 : decode code 1047 = .ok (.aload_n 0, 1) := by decide +kernel
theorem dL_law_1048 : decode code 1048 = .ok (.iload_n 3, 1) := by decide +kernel
theorem dL_law_1049 : decode code 1049 = .ok (.iconst 1, 1) := by decide +kernel
theorem dL_law_1050 : decode code 1050 = .ok (.iadd, 1) := by decide +kernel
theorem dL_law_1051 : decode code 1051 = .ok (.iaload, 1) := by decide +kernel
theorem dL_law_1052 : decode code 1052 = .ok (.invokevirtual 149, 3) := by decide +kernel
theorem dL_law_1055 : decode code 1055 = .ok (.pop, 1) := by decide +kernel
theorem dL_law_1056 : decode code 1056 = .ok (.aload_n 2, 1) := by decide +kernel
theorem dL_law_1057 : decode code 1057 = .ok (.aload_n 0, 1) := by decide +kernel
theorem dL_law_1058 : decode code 1058 = .ok (.iload_n 3, 1) := by decide +kernel
theorem dL_law_1059 : decode code 1059 = .ok (.iconst 1, 1) := by decide +kernel
theorem dL_law_1060 : decode code 1060 = .ok (.iadd, 1) := by decide +kernel
theorem dL_law_1061 : decode code 1061 = .ok (.iaload, 1) := by decide +kernel
theorem dL_law_1062 : decode code 1062 = .ok (.invokevirtual 152, 3) := by decide +kernel
theorem dL_law_1065 : decode code 1065 = .ok (.pop, 1) := by decide +kernel
theorem dL_law_1066 : decode code 1066 = .ok (.goto 271, 3) := by decide +kernel
theorem dL_law_1069 : decode code 1069 = .ok (.aload_n 1, 1) := by decide +kernel
theorem dL_law_1070 : decode code 1070 = .ok (.aload_n 0, 1) := by decide +kernel
theorem dL_law_1071 : decode code 1071 = .ok (.iload_n 3, 1) := by decide +kernel
theorem dL_law_1072 : decode code 1072 = .ok (.iconst 1, 1) := by decide +kernel
theorem dL_law_1073 : decode code 1073 = .ok (.iadd, 1) := by decide +kernel
theorem dL_law_1074 : decode code 1074 = .ok (.iaload, 1) := by decide +kernel
theorem dL_law_1075 : decode code 1075 = .ok (.aload_n 0, 1) := by decide +kernel
theorem dL_law_1076 : decode code 1076 = .ok (.iload_n 3, 1) := by decide +kernel
theorem dL_law_1077 : decode code 1077 = .ok (.iconst 2, 1) := by decide +kernel
theorem dL_law_1078 : decode code 1078 = .ok (.iadd, 1) := by decide +kernel
theorem dL_law_1079 : decode code 1079 = .ok (.iaload, 1) := by decide +kernel
theorem dL_law_1080 : decode code 1080 = .ok (.invokevirtual 153, 3) := by decide +kernel
theorem dL_law_1083 : decode code 1083 = .ok (.pop, 1) := by decide +kernel
theorem dL_law_1084 : decode code 1084 = .ok (.aload_n 2, 1) := by decide +kernel
theorem dL_law_1085 : decode code 1085 = .ok (.aload_n 0, 1) := by decide +kernel
theorem dL_law_1086 : decode code 1086 = .ok (.iload_n 3, 1) := by decide +kernel
theorem dL_law_1087 : decode code 1087 = .ok (.iconst 1, 1) := by decide +kernel
theorem dL_law_1088 : decode code 1088 = .ok (.iadd, 1) := by decide +kernel
theorem dL_law_1089 : decode code 1089 = .ok (.iaload, 1) := by decide +kernel
theorem dL_law_1090 : decode code 1090 = .ok (.aload_n 0, 1) := by decide +kernel
theorem dL_law_1091 : decode code 1091 = .ok (.iload_n 3, 1) := by decide +kernel
theorem dL_law_1092 : decode code 1092 = .ok (.iconst 2, 1) := by decide +kernel
theorem dL_law_1093 : decode code 1093 = .ok (.iadd, 1) := by decide +kernel
theorem dL_law_1094 : decode code 1094 = .ok (.iaload, 1) := by decide +kernel
theorem dL_law_1095 : decode code 1095 = .ok (.invokevirtual 156, 3) := by decide +kernel
theorem dL_law_1098 : decode code 1098 = .ok (.pop, 1) := by decide +kernel
theorem dL_law_1099 : decode code 1099 = .ok (.goto 238, 3) := by decide +kernel
theorem dL_law_1102 : decode code 1102 = .ok (.aload_n 1, 1) := by decide +kernel
theorem dL_law_1103 : decode code 1103 = .ok (.aload_n 0, 1) := by decide +kernel
theorem dL_law_1104 : decode code 1104 = .ok (.iload_n 3, 1) := by decide +kernel
theorem dL_law_1105 : decode code 1105 = .ok (.iconst 1, 1) := by decide +kernel
theorem dL_law_1106 : decode code 1106 = .ok (.iadd, 1) := by decide +kernel
theorem dL_law_1107 : decode code 1107 = .ok (.iaload, 1) := by decide +kernel
theorem dL_law_1108 : decode code 1108 = .ok (.invokevirtual 157, 3) := by decide +kernel
theorem dL_law_1111 : decode code 1111 = .ok (.pop, 1) := by decide +kernel
theorem dL_law_1112 : decode code 1112 = .ok (.aload_n 2, 1) := by decide +kernel
theorem dL_law_1113 : decode code 1113 = .ok (.aload_n 0, 1) := by decide +kernel
theorem dL_law_1114 : decode code 1114 = .ok (.iload_n 3, 1) := by decide +kernel
theorem dL_law_1115 : decode code 1115 = .ok (.iconst 1, 1) := by decide +kernel
theorem dL_law_1116 : decode code 1116 = .ok (.iadd, 1) := by decide +kernel
theorem dL_law_1117 : decode code 1117 = .ok (.iaload, 1) := by decide +kernel
theorem dL_law_1118 : decode code 1118 = .ok (.invokevirtual 160, 3) := by decide +kernel
theorem dL_law_1121 : decode code 1121 = .ok (.pop, 1) := by decide +kernel
theorem dL_law_1122 : decode code 1122 = .ok (.goto 215, 3) := by decide +kernel
theorem dL_law_1125 : decode code 1125 = .ok (.aload_n 1, 1) := by decide +kernel
theorem dL_law_1126 : decode code 1126 = .ok (.aload_n 0, 1) := by decide +kernel
theorem dL_law_1127 : decode code 1127 = .ok (.iload_n 3, 1) := by decide +kernel
theorem dL_law_1128 : decode code 1128 = .ok (.iconst 1, 1) := by decide +kernel
theorem dL_law_1129 : decode code 1129 = .ok (.iadd, 1) := by decide +kernel
theorem dL_law_1130 : decode code 1130 = .ok (.iaload, 1) := by decide +kernel
theorem dL_law_1131 : decode code 1131 = .ok (.aload_n 0, 1) := by decide +kernel
theorem dL_law_1132 : decode code 1132 = .ok (.iload_n 3, 1) := by decide +kernel
theorem dL_law_1133 : decode code 1133 = .ok (.iconst 2, 1) := by decide +kernel
theorem dL_law_1134 : decode code 1134 = .ok (.iadd, 1) := by decide +kernel
theorem dL_law_1135 : decode code 1135 = .ok (.iaload, 1) := by decide +kernel
theorem dL_law_1136 : decode code 1136 = .ok (.aload_n 0, 1) := by decide +kernel
theorem dL_law_1137 : decode code 1137 = .ok (.iload_n 3, 1) := by decide +kernel
theorem dL_law_1138 : decode code 1138 = .ok (.iconst 3, 1) := by decide +kernel
theorem dL_law_1139 : decode code 1139 = .ok (.iadd, 1) := by decide +kernel
theorem dL_law_1140 : decode code 1140 = .ok (.iaload, 1) := by decide +kernel
theorem dL_law_1141 : decode code 1141 = .ok (.invokevirtual 161, 3) := by decide +kernel
theorem dL_law_1144 : decode code 1144 = .ok (.pop, 1) := by decide +kernel
theorem dL_law_1145 : decode code 1145 = .ok (.aload_n 2, 1) := by decide +kernel
theorem dL_law_1146 : decode code 1146 = .ok (.aload_n 0, 1) := by decide +kernel
theorem dL_law_1147 : decode code 1147 = .ok (.iload_n 3, 1) := by decide +kernel
theorem dL_law_1148 : decode code 1148 = .ok (.iconst 1, 1) := by decide +kernel
theorem dL_law_1149 : decode code 1149 = .ok (.iadd, 1) := by decide +kernel
theorem dL_law_1150 : decode code 1150 = .ok (.iaload, 1) := by decide +kernel
theorem dL_law_1151 : decode code 1151 = .ok (.aload_n 0, 1) := by decide +kernel
theorem dL_law_1152 : decode code 1152 = .ok (.iload_n 3, 1) := by decide +kernel
theorem dL_law_1153 : decode code 1153 = .ok (.iconst 2, 1) := by decide +kernel
theorem dL_law_1154 : decode code 1154 = .ok (.iadd, 1) := by decide +kernel
theorem dL_law_1155 : decode code 1155 = .ok (.iaload, 1) := by decide +kernel
theorem dL_law_1156 : decode code 1156 = .ok (.aload_n 0, 1) := by decide +kernel
theorem dL_law_1157 : decode code 1157 = .ok (.iload_n 3, 1) := by decide +kernel
theorem dL_law_1158 : decode code 1158 = .ok (.iconst 3, 1) := by decide +kernel
theorem dL_law_1159 : decode code 1159 = .ok (.iadd, 1) := by decide +kernel
theorem dL_law_1160 : decode code 1160 = .ok (.iaload, 1) := by decide +kernel
theorem dL_law_1161 : decode code 1161 = .ok (.invokevirtual 164, 3) := by decide +kernel
theorem dL_law_1164 : decode code 1164 = .ok (.pop, 1) := by decide +kernel
theorem dL_law_1165 : decode code 1165 = .ok (.goto 172, 3) := by decide +kernel
theorem dL_law_1168 : decode code 1168 = .ok (.aload_n 1, 1) := by decide +kernel
theorem dL_law_1169 : decode code 1169 = .ok (.aload_n 0, 1) := by decide +kernel
theorem dL_law_1170 : decode code 1170 = .ok (.iload_n 3, 1) := by decide +kernel
theorem dL_law_1171 : decode code 1171 = .ok (.iconst 1, 1) := by decide +kernel
theorem dL_law_1172 : decode code 1172 = .ok (.iadd, 1) := by decide +kernel
theorem dL_law_1173 : decode code 1173 = .ok (.iaload, 1) := by decide +kernel
theorem dL_law_1174 : decode code 1174 = .ok (.aload_n 0, 1) := by decide +kernel
theorem dL_law_1175 : decode code 1175 = .ok (.iload_n 3, 1) := by decide +kernel
theorem dL_law_1176 : decode code 1176 = .ok (.iconst 2, 1) := by decide +kernel
theorem dL_law_1177 : decode code 1177 = .ok (.iadd, 1) := by decide +kernel
theorem dL_law_1178 : decode code 1178 = .ok (.iaload, 1) := by decide +kernel
theorem dL_law_1179 : decode code 1179 = .ok (.aload_n 0, 1) := by decide +kernel
theorem dL_law_1180 : decode code 1180 = .ok (.iload_n 3, 1) := by decide +kernel
theorem dL_law_1181 : decode code 1181 = .ok (.iconst 3, 1) := by decide +kernel
theorem dL_law_1182 : decode code 1182 = .ok (.iadd, 1) := by decide +kernel
theorem dL_law_1183 : decode code 1183 = .ok (.iaload, 1) := by decide +kernel
theorem dL_law_1184 : decode code 1184 = .ok (.i2l, 1) := by decide +kernel
theorem dL_law_1185 : decode code 1185 = .ok (.bipush 32, 2) := by decide +kernel
theorem dL_law_1187 : decode code 1187 = .ok (.lshl, 1) := by decide +kernel
theorem dL_law_1188 : decode code 1188 = .ok (.aload_n 0, 1) := by decide +kernel
theorem dL_law_1189 : decode code 1189 = .ok (.iload_n 3, 1) := by decide +kernel
theorem dL_law_1190 : decode code 1190 = .ok (.iconst 4, 1) := by decide +kernel
theorem dL_law_1191 : decode code 1191 = .ok (.iadd, 1) := by decide +kernel
theorem dL_law_1192 : decode code 1192 = .ok (.iaload, 1) := by decide +kernel
theorem dL_law_1193 : decode code 1193 = .ok (.i2l, 1) := by decide +kernel
theorem dL_law_1194 : decode code 1194 = .ok (.ldc2_w 165, 3) := by decide +kernel
theorem dL_law_1197 : decode code 1197 = .ok (.land, 1) := by decide +kernel
theorem dL_law_1198 : decode code 1198 = .ok (.lor, 1) := by decide +kernel
theorem dL_law_1199 : decode code 1199 = .ok (.invokevirtual 167, 3) := by decide +kernel
theorem dL_law_1202 : decode code 1202 = .ok (.pop, 1) := by decide +kernel
theorem dL_law_1203 : decode code 1203 = .ok (.aload_n 2, 1) := by decide +kernel
theorem dL_law_1204 : decode code 1204 = .ok (.aload_n 0, 1) := by decide +kernel
theorem dL_law_1205 : decode code 1205 = .ok (.iload_n 3, 1) := by decide +kernel
theorem dL_law_1206 : decode code 1206 = .ok (.iconst 1, 1) := by decide +kernel
theorem dL_law_1207 : decode code 1207 = .ok (.iadd, 1) := by decide +kernel
theorem dL_law_1208 : decode code 1208 = .ok (.iaload, 1) := by decide +kernel
theorem dL_law_1209 : decode code 1209 = .ok (.aload_n 0, 1) := by decide +kernel
theorem dL_law_1210 : decode code 1210 = .ok (.iload_n 3, 1) := by decide +kernel
theorem dL_law_1211 : decode code 1211 = .ok (.iconst 2, 1) := by decide +kernel
theorem dL_law_1212 : decode code 1212 = .ok (.iadd, 1) := by decide +kernel
theorem dL_law_1213 : decode code 1213 = .ok (.iaload, 1) := by decide +kernel
theorem dL_law_1214 : decode code 1214 = .ok (.aload_n 0, 1) := by decide +kernel
theorem dL_law_1215 : decode code 1215 = .ok (.iload_n 3, 1) := by decide +kernel
theorem dL_law_1216 : decode code 1216 = .ok (.iconst 3, 1) := by decide +kernel
theorem dL_law_1217 : decode code 1217 = .ok (.iadd, 1) := by decide +kernel
theorem dL_law_1218 : decode code 1218 = .ok (.iaload, 1) := by decide +kernel
theorem dL_law_1219 : decode code 1219 = .ok (.i2l, 1) := by decide +kernel
theorem dL_law_1220 : decode code 1220 = .ok (.bipush 32, 2) := by decide +kernel
theorem dL_law_1222 : decode code 1222 = .ok (.lshl, 1) := by decide +kernel
theorem dL_law_1223 : decode code 1223 = .ok (.aload_n 0, 1) := by decide +kernel
theorem dL_law_1224 : decode code 1224 = .ok (.iload_n 3, 1) := by decide +kernel
theorem dL_law_1225 : decode code 1225 = .ok (.iconst 4, 1) := by decide +kernel
theorem dL_law_1226 : decode code 1226 = .ok (.iadd, 1) := by decide +kernel
theorem dL_law_1227 : decode code 1227 = .ok (.iaload, 1) := by decide +kernel
theorem dL_law_1228 : decode code 1228 = .ok (.i2l, 1) := by decide +kernel
theorem dL_law_1229 : decode code 1229 = .ok (.ldc2_w 165, 3) := by decide +kernel
theorem dL_law_1232 : decode code 1232 = .ok (.land, 1) := by decide +kernel
theorem dL_law_1233 : decode code 1233 = .ok (.lor, 1) := by decide +kernel
theorem dL_law_1234 : decode code 1234 = .ok (.invokevirtual 171, 3) := by decide +kernel
theorem dL_law_1237 : decode code 1237 = .ok (.pop, 1) := by decide +kernel
theorem dL_law_1238 : decode code 1238 = .ok (.goto 99, 3) := by decide +kernel
theorem dL_law_1241 : decode code 1241 = .ok (.aload_n 1, 1) := by decide +kernel
theorem dL_law_1242 : decode code 1242 = .ok (.aload_n 0, 1) := by decide +kernel
theorem dL_law_1243 : decode code 1243 = .ok (.iload_n 3, 1) := by decide +kernel
theorem dL_law_1244 : decode code 1244 = .ok (.iconst 1, 1) := by decide +kernel
theorem dL_law_1245 : decode code 1245 = .ok (.iadd, 1) := by decide +kernel
theorem dL_law_1246 : decode code 1246 = .ok (.iaload, 1) := by decide +kernel
theorem dL_law_1247 : decode code 1247 = .ok (.aload_n 0, 1) := by decide +kernel
theorem dL_law_1248 : decode code 1248 = .ok (.iload_n 3, 1) := by decide +kernel
theorem dL_law_1249 : decode code 1249 = .ok (.iconst 2, 1) := by decide +kernel
theorem dL_law_1250 : decode code 1250 = .ok (.iadd, 1) := by decide +kernel
theorem dL_law_1251 : decode code 1251 = .ok (.iaload, 1) := by decide +kernel
theorem dL_law_1252 : decode code 1252 = .ok (.invokevirtual 172, 3) := by decide +kernel
theorem dL_law_1255 : decode code 1255 = .ok (.pop2, 1) := by decide +kernel
theorem dL_law_1256 : decode code 1256 = .ok (.aload_n 2, 1) := by decide +kernel
theorem dL_law_1257 : decode code 1257 = .ok (.aload_n 0, 1) := by decide +kernel
theorem dL_law_1258 : decode code 1258 = .ok (.iload_n 3, 1) := by decide +kernel
theorem dL_law_1259 : decode code 1259 = .ok (.iconst 1, 1) := by decide +kernel
theorem dL_law_1260 : decode code 1260 = .ok (.iadd, 1) := by decide +kernel
theorem dL_law_1261 : decode code 1261 = .ok (.iaload, 1) := by decide +kernel
theorem dL_law_1262 : decode code 1262 = .ok (.aload_n 0, 1) := by decide +kernel
theorem dL_law_1263 : decode code 1263 = .ok (.iload_n 3, 1) := by decide +kernel
theorem dL_law_1264 : decode code 1264 = .ok (.iconst 2, 1) := by decide +kernel
theorem dL_law_1265 : decode code 1265 = .ok (.iadd, 1) := by decide +kernel
theorem dL_law_1266 : decode code 1266 = .ok (.iaload, 1) := by decide +kernel
theorem dL_law_1267 : decode code 1267 = .ok (.invokevirtual 175, 3) := by decide +kernel
theorem dL_law_1270 : decode code 1270 = .ok (.pop2, 1) := by decide +kernel
theorem dL_law_1271 : decode code 1271 = .ok (.goto 66, 3) := by decide +kernel
theorem dL_law_1274 : decode code 1274 = .ok (.aload_n 1, 1) := by decide +kernel
theorem dL_law_1275 : decode code 1275 = .ok (.aload_n 0, 1) := by decide +kernel
theorem dL_law_1276 : decode code 1276 = .ok (.iload_n 3, 1) := by decide +kernel
theorem dL_law_1277 : decode code 1277 = .ok (.iconst 1, 1) := by decide +kernel
theorem dL_law_1278 : decode code 1278 = .ok (.iadd, 1) := by decide +kernel
theorem dL_law_1279 : decode code 1279 = .ok (.iaload, 1) := by decide +kernel
theorem dL_law_1280 : decode code 1280 = .ok (.aload_n 0, 1) := by decide +kernel
theorem dL_law_1281 : decode code 1281 = .ok (.iload_n 3, 1) := by decide +kernel
theorem dL_law_1282 : decode code 1282 = .ok (.iconst 2, 1) := by decide +kernel
theorem dL_law_1283 : decode code 1283 = .ok (.iadd, 1) := by decide +kernel
theorem dL_law_1284 : decode code 1284 = .ok (.iaload, 1) := by decide +kernel
theorem dL_law_1285 : decode code 1285 = .ok (.aload_n 0, 1) := by decide +kernel
theorem dL_law_1286 : decode code 1286 = .ok (.iload_n 3, 1) := by decide +kernel
theorem dL_law_1287 : decode code 1287 = .ok (.iconst 3, 1) := by decide +kernel
theorem dL_law_1288 : decode code 1288 = .ok (.iadd, 1) := by decide +kernel
theorem dL_law_1289 : decode code 1289 = .ok (.iaload, 1) := by decide +kernel
theorem dL_law_1290 : decode code 1290 = .ok (.aload_n 0, 1) := by decide +kernel
theorem dL_law_1291 : decode code 1291 = .ok (.iload_n 3, 1) := by decide +kernel
theorem dL_law_1292 : decode code 1292 = .ok (.iconst 4, 1) := by decide +kernel
theorem dL_law_1293 : decode code 1293 = .ok (.iadd, 1) := by decide +kernel
theorem dL_law_1294 : decode code 1294 = .ok (.iaload, 1) := by decide +kernel
theorem dL_law_1295 : decode code 1295 = .ok (.aload_n 0, 1) := by decide +kernel
theorem dL_law_1296 : decode code 1296 = .ok (.iload_n 3, 1) := by decide +kernel
theorem dL_law_1297 : decode code 1297 = .ok (.iconst 5, 1) := by decide +kernel
theorem dL_law_1298 : decode code 1298 = .ok (.iadd, 1) := by decide +kernel
theorem dL_law_1299 : decode code 1299 = .ok (.iaload, 1) := by decide +kernel
theorem dL_law_1300 : decode code 1300 = .ok (.invokevirtual 176, 3) := by decide +kernel
theorem dL_law_1303 : decode code 1303 = .ok (.pop, 1) := by decide +kernel
theorem dL_law_1304 : decode code 1304 = .ok (.aload_n 2, 1) := by decide +kernel
theorem dL_law_1305 : decode code 1305 = .ok (.aload_n 0, 1) := by decide +kernel
theorem dL_law_1306 : decode code 1306 = .ok (.iload_n 3, 1) := by decide +kernel
theorem dL_law_1307 : decode code 1307 = .ok (.iconst 1, 1) := by decide +kernel
theorem dL_law_1308 : decode code 1308 = .ok (.iadd, 1) := by decide +kernel
theorem dL_law_1309 : decode code 1309 = .ok (.iaload, 1) := by decide +kernel
theorem dL_law_1310 : decode code 1310 = .ok (.aload_n 0, 1) := by decide +kernel
theorem dL_law_1311 : decode code 1311 = .ok (.iload_n 3, 1) := by decide +kernel
theorem dL_law_1312 : decode code 1312 = .ok (.iconst 2, 1) := by decide +kernel
theorem dL_law_1313 : decode code 1313 = .ok (.iadd, 1) := by decide +kernel
theorem dL_law_1314 : decode code 1314 = .ok (.iaload, 1) := by decide +kernel
theorem dL_law_1315 : decode code 1315 = .ok (.aload_n 0, 1) := by decide +kernel
theorem dL_law_1316 : decode code 1316 = .ok (.iload_n 3, 1) := by decide +kernel
theorem dL_law_1317 : decode code 1317 = .ok (.iconst 3, 1) := by decide +kernel
theorem dL_law_1318 : decode code 1318 = .ok (.iadd, 1) := by decide +kernel
theorem dL_law_1319 : decode code 1319 = .ok (.iaload, 1) := by decide +kernel
theorem dL_law_1320 : decode code 1320 = .ok (.aload_n 0, 1) := by decide +kernel
theorem dL_law_1321 : decode code 1321 = .ok (.iload_n 3, 1) := by decide +kernel
theorem dL_law_1322 : decode code 1322 = .ok (.iconst 4, 1) := by decide +kernel
theorem dL_law_1323 : decode code 1323 = .ok (.iadd, 1) := by decide +kernel
theorem dL_law_1324 : decode code 1324 = .ok (.iaload, 1) := by decide +kernel
theorem dL_law_1325 : decode code 1325 = .ok (.aload_n 0, 1) := by decide +kernel
theorem dL_law_1326 : decode code 1326 = .ok (.iload_n 3, 1) := by decide +kernel
theorem dL_law_1327 : decode code 1327 = .ok (.iconst 5, 1) := by decide +kernel
theorem dL_law_1328 : decode code 1328 = .ok (.iadd, 1) := by decide +kernel
theorem dL_law_1329 : decode code 1329 = .ok (.iaload, 1) := by decide +kernel
theorem dL_law_1330 : decode code 1330 = .ok (.invokevirtual 179, 3) := by decide +kernel
theorem dL_law_1333 : decode code 1333 = .ok (.pop, 1) := by decide +kernel
theorem dL_law_1334 : decode code 1334 = .ok (.goto 3, 3) := by decide +kernel
set_option maxRecDepth 10000 in
theorem zl_case_0 (htab : pvTab) {p : Program} {l : Launch} {e : Env} {s : State} {m : MethodId} {below : List Frame} {meth : Method} {c : Code} {b L : Nat} {xs : Nat → Int32} {D : va_G} {y : Nat → ClassId} {ad : Nat → Nat} {ls : Array Slot} {i : Int32} {Q : State → Prop} {M : pvM} (C : zLc p s m c b L xs D y ad ls i) (hi : zIR M) (kk : ∀ M1, zIR M1 → zLW p l e s m below meth c b D y ad ls Q 1337 [] M1) : zLW p l e s m below meth c b D y ad ls Q 204 [] M := by
  refine zr_x C dL_law_204 ?_
  refine zr_arg 1 C dL_law_205 dL_law_206 dL_law_207 dL_law_208 dL_law_209 (by decide) (by decide) ?_
  refine zr_arg 2 C dL_law_210 dL_law_211 dL_law_212 dL_law_213 dL_law_214 (by decide) (by decide) ?_
  refine zr_arg 3 C dL_law_215 dL_law_216 dL_law_217 dL_law_218 dL_law_219 (by decide) (by decide) ?_
  refine zr_arg 4 C dL_law_220 dL_law_221 dL_law_222 dL_law_223 dL_law_224 (by decide) (by decide) ?_
  refine zr_arg 5 C dL_law_225 dL_law_226 dL_law_227 dL_law_228 dL_law_229 (by decide) (by decide) ?_
  refine zr_call htab (j := 210) (n := 5) (q := 0) (as := [pvI (xs (i + 1).toNatClampNeg), pvI (xs (i + 2).toNatClampNeg), pvI (xs (i + 3).toNatClampNeg), pvI (xs (i + 4).toNatClampNeg), pvI (xs (i + 5).toNatClampNeg)]) (rest := []) C rfl rfl rfl rfl (lw_X9_window M hi.1 (xs (i + 1).toNatClampNeg) (xs (i + 2).toNatClampNeg) (xs (i + 3).toNatClampNeg) (xs (i + 4).toNatClampNeg) (xs (i + 5).toNatClampNeg)) (zgV zm_216 zm_217 zm_218 zm_2 zm_219) (by decide +kernel) rfl rfl rfl dL_law_230 rfl rfl (fun r M1_ h1_ => ?_)
  obtain ⟨⟨v1_, rfl, ev1_⟩, iv1_, c0v1_, c1v1_, c2v1_, c3v1_, c4v1_, c5v1_, c6v1_, c7v1_, c8v1_, c9v1_, c10v1_, c11v1_, c12v1_, c13v1_, c14v1_, c15v1_, c16v1_, c17v1_, K1v1_, K2v1_, K3v1_, K4v1_, T9v1_, T10v1_, G1v1_, G2v1_, G3v1_, G4v1_, A9v1_, A0v1_, VSv1_, VKv1_, WSv1_, WKv1_, HBv1_, HDv1_⟩ := h1_
  refine zr_pop C dL_law_233 rfl ?_
  refine zr_m C dL_law_234 ?_
  refine zr_arg 1 C dL_law_235 dL_law_236 dL_law_237 dL_law_238 dL_law_239 (by decide) (by decide) ?_
  refine zr_arg 2 C dL_law_240 dL_law_241 dL_law_242 dL_law_243 dL_law_244 (by decide) (by decide) ?_
  refine zr_arg 3 C dL_law_245 dL_law_246 dL_law_247 dL_law_248 dL_law_249 (by decide) (by decide) ?_
  refine zr_arg 4 C dL_law_250 dL_law_251 dL_law_252 dL_law_253 dL_law_254 (by decide) (by decide) ?_
  refine zr_arg 5 C dL_law_255 dL_law_256 dL_law_257 dL_law_258 dL_law_259 (by decide) (by decide) ?_
  refine zr_call htab (j := 97) (n := 5) (q := 124) (as := [pvI (xs (i + 1).toNatClampNeg), pvI (xs (i + 2).toNatClampNeg), pvI (xs (i + 3).toNatClampNeg), pvI (xs (i + 4).toNatClampNeg), pvI (xs (i + 5).toNatClampNeg)]) (rest := []) C rfl rfl rfl rfl (lw_X10_window M1_ iv1_ (xs (i + 1).toNatClampNeg) (xs (i + 2).toNatClampNeg) (xs (i + 3).toNatClampNeg) (xs (i + 4).toNatClampNeg) (xs (i + 5).toNatClampNeg)) (zgV zm_236 zm_237 zm_238 zm_5 zm_239) (by decide +kernel) rfl rfl rfl dL_law_260 rfl rfl (fun r M2_ h2_ => ?_)
  obtain ⟨⟨v2_, rfl, ev2_⟩, iv2_, c0v2_, c1v2_, c2v2_, c3v2_, c4v2_, c5v2_, c6v2_, c7v2_, c8v2_, c9v2_, c10v2_, c11v2_, c12v2_, c13v2_, c14v2_, c15v2_, c16v2_, c17v2_, K1v2_, K2v2_, K3v2_, K4v2_, T9v2_, T10v2_, G1v2_, G2v2_, G3v2_, G4v2_, A9v2_, A0v2_, VSv2_, VKv2_, WSv2_, WKv2_, HBv2_, HDv2_⟩ := h2_
  have rv2_ : zRl M2_ := by
    have q0_ : M2_.1 8 1 = M2_.1 124 0 := by simp only [c0v2_, c1v2_, c2v2_, c3v2_, c4v2_, c5v2_, c6v2_, c7v2_, c8v2_, c9v2_, c10v2_, c11v2_, c12v2_, c13v2_, c14v2_, c15v2_, c16v2_, c17v2_, c0v1_, c1v1_, c2v1_, c3v1_, c4v1_, c5v1_, c6v1_, c7v1_, c8v1_, c9v1_, c10v1_, c11v1_, c12v1_, c13v1_, c14v1_, c15v1_, c16v1_, c17v1_, hi.2.1, hi.2.2.1, hi.2.2.2.1, hi.2.2.2.2.1, hi.2.2.2.2.2.1, hi.2.2.2.2.2.2.1, hi.2.2.2.2.2.2.2.1, hi.2.2.2.2.2.2.2.2.1, hi.2.2.2.2.2.2.2.2.2.1]; exact zc_window_0 _ _ _ _ _ _ (pvok_r hi.1.1 124 0 rfl)
    have q1_ : M2_.1 9 1 = M2_.1 124 48 := by simp only [c0v2_, c1v2_, c2v2_, c3v2_, c4v2_, c5v2_, c6v2_, c7v2_, c8v2_, c9v2_, c10v2_, c11v2_, c12v2_, c13v2_, c14v2_, c15v2_, c16v2_, c17v2_, c0v1_, c1v1_, c2v1_, c3v1_, c4v1_, c5v1_, c6v1_, c7v1_, c8v1_, c9v1_, c10v1_, c11v1_, c12v1_, c13v1_, c14v1_, c15v1_, c16v1_, c17v1_, hi.2.1, hi.2.2.1, hi.2.2.2.1, hi.2.2.2.2.1, hi.2.2.2.2.2.1, hi.2.2.2.2.2.2.1, hi.2.2.2.2.2.2.2.1, hi.2.2.2.2.2.2.2.2.1, hi.2.2.2.2.2.2.2.2.2.1]
    have q2_ : M2_.1 0 5 = M2_.1 124 46 := by simp only [c0v2_, c1v2_, c2v2_, c3v2_, c4v2_, c5v2_, c6v2_, c7v2_, c8v2_, c9v2_, c10v2_, c11v2_, c12v2_, c13v2_, c14v2_, c15v2_, c16v2_, c17v2_, c0v1_, c1v1_, c2v1_, c3v1_, c4v1_, c5v1_, c6v1_, c7v1_, c8v1_, c9v1_, c10v1_, c11v1_, c12v1_, c13v1_, c14v1_, c15v1_, c16v1_, c17v1_, hi.2.1, hi.2.2.1, hi.2.2.2.1, hi.2.2.2.2.1, hi.2.2.2.2.2.1, hi.2.2.2.2.2.2.1, hi.2.2.2.2.2.2.2.1, hi.2.2.2.2.2.2.2.2.1, hi.2.2.2.2.2.2.2.2.2.1]
    have q3_ : M2_.1 101 0 = M2_.1 124 55 := by simp only [c0v2_, c1v2_, c2v2_, c3v2_, c4v2_, c5v2_, c6v2_, c7v2_, c8v2_, c9v2_, c10v2_, c11v2_, c12v2_, c13v2_, c14v2_, c15v2_, c16v2_, c17v2_, c0v1_, c1v1_, c2v1_, c3v1_, c4v1_, c5v1_, c6v1_, c7v1_, c8v1_, c9v1_, c10v1_, c11v1_, c12v1_, c13v1_, c14v1_, c15v1_, c16v1_, c17v1_, hi.2.1, hi.2.2.1, hi.2.2.2.1, hi.2.2.2.2.1, hi.2.2.2.2.2.1, hi.2.2.2.2.2.2.1, hi.2.2.2.2.2.2.2.1, hi.2.2.2.2.2.2.2.2.1, hi.2.2.2.2.2.2.2.2.2.1]
    have q4_ : M2_.1 100 0 = M2_.1 124 37 := by simp only [c0v2_, c1v2_, c2v2_, c3v2_, c4v2_, c5v2_, c6v2_, c7v2_, c8v2_, c9v2_, c10v2_, c11v2_, c12v2_, c13v2_, c14v2_, c15v2_, c16v2_, c17v2_, c0v1_, c1v1_, c2v1_, c3v1_, c4v1_, c5v1_, c6v1_, c7v1_, c8v1_, c9v1_, c10v1_, c11v1_, c12v1_, c13v1_, c14v1_, c15v1_, c16v1_, c17v1_, hi.2.1, hi.2.2.1, hi.2.2.2.1, hi.2.2.2.2.1, hi.2.2.2.2.2.1, hi.2.2.2.2.2.2.1, hi.2.2.2.2.2.2.2.1, hi.2.2.2.2.2.2.2.2.1, hi.2.2.2.2.2.2.2.2.2.1]
    have q5_ : M2_.1 102 0 = M2_.1 124 40 := by simp only [c0v2_, c1v2_, c2v2_, c3v2_, c4v2_, c5v2_, c6v2_, c7v2_, c8v2_, c9v2_, c10v2_, c11v2_, c12v2_, c13v2_, c14v2_, c15v2_, c16v2_, c17v2_, c0v1_, c1v1_, c2v1_, c3v1_, c4v1_, c5v1_, c6v1_, c7v1_, c8v1_, c9v1_, c10v1_, c11v1_, c12v1_, c13v1_, c14v1_, c15v1_, c16v1_, c17v1_, hi.2.1, hi.2.2.1, hi.2.2.2.1, hi.2.2.2.2.1, hi.2.2.2.2.2.1, hi.2.2.2.2.2.2.1, hi.2.2.2.2.2.2.2.1, hi.2.2.2.2.2.2.2.2.1, hi.2.2.2.2.2.2.2.2.2.1]
    have q6_ : M2_.1 103 0 = M2_.1 124 56 := by simp only [c0v2_, c1v2_, c2v2_, c3v2_, c4v2_, c5v2_, c6v2_, c7v2_, c8v2_, c9v2_, c10v2_, c11v2_, c12v2_, c13v2_, c14v2_, c15v2_, c16v2_, c17v2_, c0v1_, c1v1_, c2v1_, c3v1_, c4v1_, c5v1_, c6v1_, c7v1_, c8v1_, c9v1_, c10v1_, c11v1_, c12v1_, c13v1_, c14v1_, c15v1_, c16v1_, c17v1_, hi.2.1, hi.2.2.1, hi.2.2.2.1, hi.2.2.2.2.1, hi.2.2.2.2.2.1, hi.2.2.2.2.2.2.1, hi.2.2.2.2.2.2.2.1, hi.2.2.2.2.2.2.2.2.1, hi.2.2.2.2.2.2.2.2.2.1]
    have q7_ : M2_.1 104 0 = M2_.1 124 43 := by simp only [c0v2_, c1v2_, c2v2_, c3v2_, c4v2_, c5v2_, c6v2_, c7v2_, c8v2_, c9v2_, c10v2_, c11v2_, c12v2_, c13v2_, c14v2_, c15v2_, c16v2_, c17v2_, c0v1_, c1v1_, c2v1_, c3v1_, c4v1_, c5v1_, c6v1_, c7v1_, c8v1_, c9v1_, c10v1_, c11v1_, c12v1_, c13v1_, c14v1_, c15v1_, c16v1_, c17v1_, hi.2.1, hi.2.2.1, hi.2.2.2.1, hi.2.2.2.2.1, hi.2.2.2.2.2.1, hi.2.2.2.2.2.2.1, hi.2.2.2.2.2.2.2.1, hi.2.2.2.2.2.2.2.2.1, hi.2.2.2.2.2.2.2.2.2.1]
    have q8_ : M2_.1 105 0 = M2_.1 124 57 := by simp only [c0v2_, c1v2_, c2v2_, c3v2_, c4v2_, c5v2_, c6v2_, c7v2_, c8v2_, c9v2_, c10v2_, c11v2_, c12v2_, c13v2_, c14v2_, c15v2_, c16v2_, c17v2_, c0v1_, c1v1_, c2v1_, c3v1_, c4v1_, c5v1_, c6v1_, c7v1_, c8v1_, c9v1_, c10v1_, c11v1_, c12v1_, c13v1_, c14v1_, c15v1_, c16v1_, c17v1_, hi.2.1, hi.2.2.1, hi.2.2.2.1, hi.2.2.2.2.1, hi.2.2.2.2.2.1, hi.2.2.2.2.2.2.1, hi.2.2.2.2.2.2.2.1, hi.2.2.2.2.2.2.2.2.1, hi.2.2.2.2.2.2.2.2.2.1]
    exact ⟨q0_, q1_, q2_, q3_, q4_, q5_, q6_, q7_, q8_, zP1_w hi.2.2.2.2.2.2.2.2.2.2.1 hi.2.1 K1v1_ K3v1_ c1v1_ K3v2_ K1v2_ c0v2_ q0_, zP2_k hi.2.2.2.2.2.2.2.2.2.2.2.1 (c2v2_.trans c2v1_) (zKc_t K2v1_ K2v2_) (zKm_t K4v1_ K4v2_), zPT_k hi.2.2.2.2.2.2.2.2.2.2.2.2.1 T9v1_ T10v1_ T9v2_ T10v2_, zRr_k hi.2.2.2.2.2.2.2.2.2.2.2.2.2.1 (c8v2_.trans c8v1_) G1v1_ G3v1_ G1v2_ G3v2_, zRr_k hi.2.2.2.2.2.2.2.2.2.2.2.2.2.2.1 (c6v2_.trans c6v1_) G2v1_ G4v1_ G2v2_ G4v2_, zPH_k hi.2.2.2.2.2.2.2.2.2.2.2.2.2.2.2.1 A9v1_ A0v1_ A9v2_ A0v2_, zVe_w hi.2.2.2.2.2.2.2.2.2.2.2.2.2.2.2.2.1 hi.2.1.symm c1v1_ c0v2_ q0_.symm (pvok_r hi.1.1 8 1 (lo := 0) (hi := 7) rfl).1 VSv1_ WSv1_ VSv2_ WSv2_, zVe_k hi.2.2.2.2.2.2.2.2.2.2.2.2.2.2.2.2.2.1 (c2v2_.trans c2v1_) VKv1_ WKv1_ VKv2_ WKv2_, zHW_d hi.1.1 hi.2.2.2.2.2.2.2.2.2.2.2.2.2.2.2.2.2.2 HBv1_ HDv1_ HBv2_ HDv2_⟩
  refine zr_pop C dL_law_263 rfl ?_
  refine zr_goto (tgt := 1337) C dL_law_264 (by decide) ?_
  exact kk M2_ ⟨iv2_, rv2_⟩
set_option maxRecDepth 10000 in
theorem zl_case_1 (htab : pvTab) {p : Program} {l : Launch} {e : Env} {s : State} {m : MethodId} {below : List Frame} {meth : Method} {c : Code} {b L : Nat} {xs : Nat → Int32} {D : va_G} {y : Nat → ClassId} {ad : Nat → Nat} {ls : Array Slot} {i : Int32} {Q : State → Prop} {M : pvM} (C : zLc p s m c b L xs D y ad ls i) (hi : zIR M) (kk : ∀ M1, zIR M1 → zLW p l e s m below meth c b D y ad ls Q 1337 [] M1) : zLW p l e s m below meth c b D y ad ls Q 267 [] M := by
  refine zr_x C dL_law_267 ?_
  refine zr_arg 1 C dL_law_268 dL_law_269 dL_law_270 dL_law_271 dL_law_272 (by decide) (by decide) ?_
  refine zr_arg 2 C dL_law_273 dL_law_274 dL_law_275 dL_law_276 dL_law_277 (by decide) (by decide) ?_
  refine zr_call htab (j := 189) (n := 2) (q := 0) (as := [pvI (xs (i + 1).toNatClampNeg), pvI (xs (i + 2).toNatClampNeg)]) (rest := []) C rfl rfl rfl rfl (lw_X9_of M hi.1 (xs (i + 1).toNatClampNeg) (xs (i + 2).toNatClampNeg)) (zgV zm_248 zm_249 zm_250 zm_2 zm_251) (by decide +kernel) rfl rfl rfl dL_law_278 rfl rfl (fun r M1_ h1_ => ?_)
  obtain ⟨⟨v1_, rfl⟩, iv1_, c0v1_, c1v1_, c2v1_, c3v1_, c4v1_, c5v1_, c6v1_, c7v1_, c8v1_, c9v1_, c10v1_, c11v1_, c12v1_, c13v1_, c14v1_, c15v1_, c16v1_, c17v1_, K1v1_, K2v1_, K3v1_, K4v1_, T9v1_, T10v1_, G1v1_, G2v1_, G3v1_, G4v1_, A9v1_, A0v1_, VSv1_, VKv1_, WSv1_, WKv1_, HBv1_, HDv1_⟩ := h1_
  refine zr_pop C dL_law_281 rfl ?_
  refine zr_m C dL_law_282 ?_
  refine zr_arg 1 C dL_law_283 dL_law_284 dL_law_285 dL_law_286 dL_law_287 (by decide) (by decide) ?_
  refine zr_arg 2 C dL_law_288 dL_law_289 dL_law_290 dL_law_291 dL_law_292 (by decide) (by decide) ?_
  refine zr_call htab (j := 59) (n := 2) (q := 124) (as := [pvI (xs (i + 1).toNatClampNeg), pvI (xs (i + 2).toNatClampNeg)]) (rest := []) C rfl rfl rfl rfl (lw_X10_of M1_ iv1_ (xs (i + 1).toNatClampNeg) (xs (i + 2).toNatClampNeg)) (zgV zm_349 zm_350 zm_351 zm_5 zm_352) (by decide +kernel) rfl rfl rfl dL_law_293 rfl rfl (fun r M2_ h2_ => ?_)
  obtain ⟨⟨v2_, rfl⟩, iv2_, c0v2_, c1v2_, c2v2_, c3v2_, c4v2_, c5v2_, c6v2_, c7v2_, c8v2_, c9v2_, c10v2_, c11v2_, c12v2_, c13v2_, c14v2_, c15v2_, c16v2_, c17v2_, K1v2_, K2v2_, K3v2_, K4v2_, T9v2_, T10v2_, G1v2_, G2v2_, G3v2_, G4v2_, A9v2_, A0v2_, VSv2_, VKv2_, WSv2_, WKv2_, HBv2_, HDv2_⟩ := h2_
  have rv2_ : zRl M2_ := by
    have q0_ : M2_.1 8 1 = M2_.1 124 0 := by simp only [c0v2_, c1v2_, c2v2_, c3v2_, c4v2_, c5v2_, c6v2_, c7v2_, c8v2_, c9v2_, c10v2_, c11v2_, c12v2_, c13v2_, c14v2_, c15v2_, c16v2_, c17v2_, c0v1_, c1v1_, c2v1_, c3v1_, c4v1_, c5v1_, c6v1_, c7v1_, c8v1_, c9v1_, c10v1_, c11v1_, c12v1_, c13v1_, c14v1_, c15v1_, c16v1_, c17v1_, hi.2.1, hi.2.2.1, hi.2.2.2.1, hi.2.2.2.2.1, hi.2.2.2.2.2.1, hi.2.2.2.2.2.2.1, hi.2.2.2.2.2.2.2.1, hi.2.2.2.2.2.2.2.2.1, hi.2.2.2.2.2.2.2.2.2.1]
    have q1_ : M2_.1 9 1 = M2_.1 124 48 := by simp only [c0v2_, c1v2_, c2v2_, c3v2_, c4v2_, c5v2_, c6v2_, c7v2_, c8v2_, c9v2_, c10v2_, c11v2_, c12v2_, c13v2_, c14v2_, c15v2_, c16v2_, c17v2_, c0v1_, c1v1_, c2v1_, c3v1_, c4v1_, c5v1_, c6v1_, c7v1_, c8v1_, c9v1_, c10v1_, c11v1_, c12v1_, c13v1_, c14v1_, c15v1_, c16v1_, c17v1_, hi.2.1, hi.2.2.1, hi.2.2.2.1, hi.2.2.2.2.1, hi.2.2.2.2.2.1, hi.2.2.2.2.2.2.1, hi.2.2.2.2.2.2.2.1, hi.2.2.2.2.2.2.2.2.1, hi.2.2.2.2.2.2.2.2.2.1]
    have q2_ : M2_.1 0 5 = M2_.1 124 46 := by simp only [c0v2_, c1v2_, c2v2_, c3v2_, c4v2_, c5v2_, c6v2_, c7v2_, c8v2_, c9v2_, c10v2_, c11v2_, c12v2_, c13v2_, c14v2_, c15v2_, c16v2_, c17v2_, c0v1_, c1v1_, c2v1_, c3v1_, c4v1_, c5v1_, c6v1_, c7v1_, c8v1_, c9v1_, c10v1_, c11v1_, c12v1_, c13v1_, c14v1_, c15v1_, c16v1_, c17v1_, hi.2.1, hi.2.2.1, hi.2.2.2.1, hi.2.2.2.2.1, hi.2.2.2.2.2.1, hi.2.2.2.2.2.2.1, hi.2.2.2.2.2.2.2.1, hi.2.2.2.2.2.2.2.2.1, hi.2.2.2.2.2.2.2.2.2.1]
    have q3_ : M2_.1 101 0 = M2_.1 124 55 := by simp only [c0v2_, c1v2_, c2v2_, c3v2_, c4v2_, c5v2_, c6v2_, c7v2_, c8v2_, c9v2_, c10v2_, c11v2_, c12v2_, c13v2_, c14v2_, c15v2_, c16v2_, c17v2_, c0v1_, c1v1_, c2v1_, c3v1_, c4v1_, c5v1_, c6v1_, c7v1_, c8v1_, c9v1_, c10v1_, c11v1_, c12v1_, c13v1_, c14v1_, c15v1_, c16v1_, c17v1_, hi.2.1, hi.2.2.1, hi.2.2.2.1, hi.2.2.2.2.1, hi.2.2.2.2.2.1, hi.2.2.2.2.2.2.1, hi.2.2.2.2.2.2.2.1, hi.2.2.2.2.2.2.2.2.1, hi.2.2.2.2.2.2.2.2.2.1]
    have q4_ : M2_.1 100 0 = M2_.1 124 37 := by simp only [c0v2_, c1v2_, c2v2_, c3v2_, c4v2_, c5v2_, c6v2_, c7v2_, c8v2_, c9v2_, c10v2_, c11v2_, c12v2_, c13v2_, c14v2_, c15v2_, c16v2_, c17v2_, c0v1_, c1v1_, c2v1_, c3v1_, c4v1_, c5v1_, c6v1_, c7v1_, c8v1_, c9v1_, c10v1_, c11v1_, c12v1_, c13v1_, c14v1_, c15v1_, c16v1_, c17v1_, hi.2.1, hi.2.2.1, hi.2.2.2.1, hi.2.2.2.2.1, hi.2.2.2.2.2.1, hi.2.2.2.2.2.2.1, hi.2.2.2.2.2.2.2.1, hi.2.2.2.2.2.2.2.2.1, hi.2.2.2.2.2.2.2.2.2.1]
    have q5_ : M2_.1 102 0 = M2_.1 124 40 := by simp only [c0v2_, c1v2_, c2v2_, c3v2_, c4v2_, c5v2_, c6v2_, c7v2_, c8v2_, c9v2_, c10v2_, c11v2_, c12v2_, c13v2_, c14v2_, c15v2_, c16v2_, c17v2_, c0v1_, c1v1_, c2v1_, c3v1_, c4v1_, c5v1_, c6v1_, c7v1_, c8v1_, c9v1_, c10v1_, c11v1_, c12v1_, c13v1_, c14v1_, c15v1_, c16v1_, c17v1_, hi.2.1, hi.2.2.1, hi.2.2.2.1, hi.2.2.2.2.1, hi.2.2.2.2.2.1, hi.2.2.2.2.2.2.1, hi.2.2.2.2.2.2.2.1, hi.2.2.2.2.2.2.2.2.1, hi.2.2.2.2.2.2.2.2.2.1]
    have q6_ : M2_.1 103 0 = M2_.1 124 56 := by simp only [c0v2_, c1v2_, c2v2_, c3v2_, c4v2_, c5v2_, c6v2_, c7v2_, c8v2_, c9v2_, c10v2_, c11v2_, c12v2_, c13v2_, c14v2_, c15v2_, c16v2_, c17v2_, c0v1_, c1v1_, c2v1_, c3v1_, c4v1_, c5v1_, c6v1_, c7v1_, c8v1_, c9v1_, c10v1_, c11v1_, c12v1_, c13v1_, c14v1_, c15v1_, c16v1_, c17v1_, hi.2.1, hi.2.2.1, hi.2.2.2.1, hi.2.2.2.2.1, hi.2.2.2.2.2.1, hi.2.2.2.2.2.2.1, hi.2.2.2.2.2.2.2.1, hi.2.2.2.2.2.2.2.2.1, hi.2.2.2.2.2.2.2.2.2.1]
    have q7_ : M2_.1 104 0 = M2_.1 124 43 := by simp only [c0v2_, c1v2_, c2v2_, c3v2_, c4v2_, c5v2_, c6v2_, c7v2_, c8v2_, c9v2_, c10v2_, c11v2_, c12v2_, c13v2_, c14v2_, c15v2_, c16v2_, c17v2_, c0v1_, c1v1_, c2v1_, c3v1_, c4v1_, c5v1_, c6v1_, c7v1_, c8v1_, c9v1_, c10v1_, c11v1_, c12v1_, c13v1_, c14v1_, c15v1_, c16v1_, c17v1_, hi.2.1, hi.2.2.1, hi.2.2.2.1, hi.2.2.2.2.1, hi.2.2.2.2.2.1, hi.2.2.2.2.2.2.1, hi.2.2.2.2.2.2.2.1, hi.2.2.2.2.2.2.2.2.1, hi.2.2.2.2.2.2.2.2.2.1]
    have q8_ : M2_.1 105 0 = M2_.1 124 57 := by simp only [c0v2_, c1v2_, c2v2_, c3v2_, c4v2_, c5v2_, c6v2_, c7v2_, c8v2_, c9v2_, c10v2_, c11v2_, c12v2_, c13v2_, c14v2_, c15v2_, c16v2_, c17v2_, c0v1_, c1v1_, c2v1_, c3v1_, c4v1_, c5v1_, c6v1_, c7v1_, c8v1_, c9v1_, c10v1_, c11v1_, c12v1_, c13v1_, c14v1_, c15v1_, c16v1_, c17v1_, hi.2.1, hi.2.2.1, hi.2.2.2.1, hi.2.2.2.2.1, hi.2.2.2.2.2.1, hi.2.2.2.2.2.2.1, hi.2.2.2.2.2.2.2.1, hi.2.2.2.2.2.2.2.2.1, hi.2.2.2.2.2.2.2.2.2.1]
    exact ⟨q0_, q1_, q2_, q3_, q4_, q5_, q6_, q7_, q8_, zP1_k hi.2.2.2.2.2.2.2.2.2.2.1 (c0v2_.trans c0v1_) (zKc_t K1v1_ K1v2_) (zKm_t K3v1_ K3v2_), zP2_k hi.2.2.2.2.2.2.2.2.2.2.2.1 (c2v2_.trans c2v1_) (zKc_t K2v1_ K2v2_) (zKm_t K4v1_ K4v2_), zPT_k hi.2.2.2.2.2.2.2.2.2.2.2.2.1 T9v1_ T10v1_ T9v2_ T10v2_, zRr_k hi.2.2.2.2.2.2.2.2.2.2.2.2.2.1 (c8v2_.trans c8v1_) G1v1_ G3v1_ G1v2_ G3v2_, zRr_k hi.2.2.2.2.2.2.2.2.2.2.2.2.2.2.1 (c6v2_.trans c6v1_) G2v1_ G4v1_ G2v2_ G4v2_, zPH_k hi.2.2.2.2.2.2.2.2.2.2.2.2.2.2.2.1 A9v1_ A0v1_ A9v2_ A0v2_, zVe_k hi.2.2.2.2.2.2.2.2.2.2.2.2.2.2.2.2.1 (c0v2_.trans c0v1_) VSv1_ WSv1_ VSv2_ WSv2_, zVe_k hi.2.2.2.2.2.2.2.2.2.2.2.2.2.2.2.2.2.1 (c2v2_.trans c2v1_) VKv1_ WKv1_ VKv2_ WKv2_, zHW_d hi.1.1 hi.2.2.2.2.2.2.2.2.2.2.2.2.2.2.2.2.2.2 HBv1_ HDv1_ HBv2_ HDv2_⟩
  refine zr_pop C dL_law_296 rfl ?_
  refine zr_goto (tgt := 1337) C dL_law_297 (by decide) ?_
  exact kk M2_ ⟨iv2_, rv2_⟩
set_option maxRecDepth 10000 in
theorem zl_case_2 (htab : pvTab) {p : Program} {l : Launch} {e : Env} {s : State} {m : MethodId} {below : List Frame} {meth : Method} {c : Code} {b L : Nat} {xs : Nat → Int32} {D : va_G} {y : Nat → ClassId} {ad : Nat → Nat} {ls : Array Slot} {i : Int32} {Q : State → Prop} {M : pvM} (C : zLc p s m c b L xs D y ad ls i) (hi : zIR M) (kk : ∀ M1, zIR M1 → zLW p l e s m below meth c b D y ad ls Q 1337 [] M1) : zLW p l e s m below meth c b D y ad ls Q 300 [] M := by
  refine zr_x C dL_law_300 ?_
  refine zr_arg 1 C dL_law_301 dL_law_302 dL_law_303 dL_law_304 dL_law_305 (by decide) (by decide) ?_
  refine zr_arg 2 C dL_law_306 dL_law_307 dL_law_308 dL_law_309 dL_law_310 (by decide) (by decide) ?_
  refine zr_ifeq (tgt := 318) C dL_law_311 (by decide) (fun c1_ => ?_) (fun c1_ => ?_)
  · refine zr_iconst (v := 0) C dL_law_318 (by decide) ?_
    refine zr_call htab (j := 193) (n := 2) (q := 0) (as := [pvI (xs (i + 1).toNatClampNeg), pvI 0]) (rest := []) C rfl rfl rfl rfl (lw_X9_put M hi.1 (xs (i + 1).toNatClampNeg) 0 (by decide)) (zgV zm_414 zm_415 zm_416 zm_2 zm_417) (by decide +kernel) rfl rfl rfl dL_law_319 rfl rfl (fun r M2_ h2_ => ?_)
    obtain ⟨⟨v2_, rfl⟩, iv2_, c0v2_, c1v2_, c2v2_, c3v2_, c4v2_, c5v2_, c6v2_, c7v2_, c8v2_, c9v2_, c10v2_, c11v2_, c12v2_, c13v2_, c14v2_, c15v2_, c16v2_, c17v2_, K1v2_, K2v2_, K3v2_, K4v2_, T9v2_, T10v2_, G1v2_, G2v2_, G3v2_, G4v2_, A9v2_, A0v2_, VSv2_, VKv2_, WSv2_, WKv2_, HBv2_, HDv2_⟩ := h2_
    refine zr_pop C dL_law_322 rfl ?_
    refine zr_m C dL_law_323 ?_
    refine zr_arg 1 C dL_law_324 dL_law_325 dL_law_326 dL_law_327 dL_law_328 (by decide) (by decide) ?_
    refine zr_arg 2 C dL_law_329 dL_law_330 dL_law_331 dL_law_332 dL_law_333 (by decide) (by decide) ?_
    refine zr_ifeq (tgt := 341) C dL_law_334 (by decide) (fun _ => ?_) (fun u => absurd c1_ u)
    refine zr_iconst (v := 0) C dL_law_341 (by decide) ?_
    refine zr_call htab (j := 66) (n := 2) (q := 124) (as := [pvI (xs (i + 1).toNatClampNeg), pvI 0]) (rest := []) C rfl rfl rfl rfl (lw_X10_put M2_ iv2_ (xs (i + 1).toNatClampNeg) 0 (by decide)) (zgV zm_418 zm_419 zm_420 zm_5 zm_421) (by decide +kernel) rfl rfl rfl dL_law_342 rfl rfl (fun r M3_ h3_ => ?_)
    obtain ⟨⟨v3_, rfl⟩, iv3_, c0v3_, c1v3_, c2v3_, c3v3_, c4v3_, c5v3_, c6v3_, c7v3_, c8v3_, c9v3_, c10v3_, c11v3_, c12v3_, c13v3_, c14v3_, c15v3_, c16v3_, c17v3_, K1v3_, K2v3_, K3v3_, K4v3_, T9v3_, T10v3_, G1v3_, G2v3_, G3v3_, G4v3_, A9v3_, A0v3_, VSv3_, VKv3_, WSv3_, WKv3_, HBv3_, HDv3_⟩ := h3_
    have rv3_ : zRl M3_ := by
      have q0_ : M3_.1 8 1 = M3_.1 124 0 := by simp only [c0v3_, c1v3_, c2v3_, c3v3_, c4v3_, c5v3_, c6v3_, c7v3_, c8v3_, c9v3_, c10v3_, c11v3_, c12v3_, c13v3_, c14v3_, c15v3_, c16v3_, c17v3_, c0v2_, c1v2_, c2v2_, c3v2_, c4v2_, c5v2_, c6v2_, c7v2_, c8v2_, c9v2_, c10v2_, c11v2_, c12v2_, c13v2_, c14v2_, c15v2_, c16v2_, c17v2_, hi.2.1, hi.2.2.1, hi.2.2.2.1, hi.2.2.2.2.1, hi.2.2.2.2.2.1, hi.2.2.2.2.2.2.1, hi.2.2.2.2.2.2.2.1, hi.2.2.2.2.2.2.2.2.1, hi.2.2.2.2.2.2.2.2.2.1]
      have q1_ : M3_.1 9 1 = M3_.1 124 48 := by simp only [c0v3_, c1v3_, c2v3_, c3v3_, c4v3_, c5v3_, c6v3_, c7v3_, c8v3_, c9v3_, c10v3_, c11v3_, c12v3_, c13v3_, c14v3_, c15v3_, c16v3_, c17v3_, c0v2_, c1v2_, c2v2_, c3v2_, c4v2_, c5v2_, c6v2_, c7v2_, c8v2_, c9v2_, c10v2_, c11v2_, c12v2_, c13v2_, c14v2_, c15v2_, c16v2_, c17v2_, hi.2.1, hi.2.2.1, hi.2.2.2.1, hi.2.2.2.2.1, hi.2.2.2.2.2.1, hi.2.2.2.2.2.2.1, hi.2.2.2.2.2.2.2.1, hi.2.2.2.2.2.2.2.2.1, hi.2.2.2.2.2.2.2.2.2.1]
      have q2_ : M3_.1 0 5 = M3_.1 124 46 := by simp only [c0v3_, c1v3_, c2v3_, c3v3_, c4v3_, c5v3_, c6v3_, c7v3_, c8v3_, c9v3_, c10v3_, c11v3_, c12v3_, c13v3_, c14v3_, c15v3_, c16v3_, c17v3_, c0v2_, c1v2_, c2v2_, c3v2_, c4v2_, c5v2_, c6v2_, c7v2_, c8v2_, c9v2_, c10v2_, c11v2_, c12v2_, c13v2_, c14v2_, c15v2_, c16v2_, c17v2_, hi.2.1, hi.2.2.1, hi.2.2.2.1, hi.2.2.2.2.1, hi.2.2.2.2.2.1, hi.2.2.2.2.2.2.1, hi.2.2.2.2.2.2.2.1, hi.2.2.2.2.2.2.2.2.1, hi.2.2.2.2.2.2.2.2.2.1]
      have q3_ : M3_.1 101 0 = M3_.1 124 55 := by simp only [c0v3_, c1v3_, c2v3_, c3v3_, c4v3_, c5v3_, c6v3_, c7v3_, c8v3_, c9v3_, c10v3_, c11v3_, c12v3_, c13v3_, c14v3_, c15v3_, c16v3_, c17v3_, c0v2_, c1v2_, c2v2_, c3v2_, c4v2_, c5v2_, c6v2_, c7v2_, c8v2_, c9v2_, c10v2_, c11v2_, c12v2_, c13v2_, c14v2_, c15v2_, c16v2_, c17v2_, hi.2.1, hi.2.2.1, hi.2.2.2.1, hi.2.2.2.2.1, hi.2.2.2.2.2.1, hi.2.2.2.2.2.2.1, hi.2.2.2.2.2.2.2.1, hi.2.2.2.2.2.2.2.2.1, hi.2.2.2.2.2.2.2.2.2.1]
      have q4_ : M3_.1 100 0 = M3_.1 124 37 := by simp only [c0v3_, c1v3_, c2v3_, c3v3_, c4v3_, c5v3_, c6v3_, c7v3_, c8v3_, c9v3_, c10v3_, c11v3_, c12v3_, c13v3_, c14v3_, c15v3_, c16v3_, c17v3_, c0v2_, c1v2_, c2v2_, c3v2_, c4v2_, c5v2_, c6v2_, c7v2_, c8v2_, c9v2_, c10v2_, c11v2_, c12v2_, c13v2_, c14v2_, c15v2_, c16v2_, c17v2_, hi.2.1, hi.2.2.1, hi.2.2.2.1, hi.2.2.2.2.1, hi.2.2.2.2.2.1, hi.2.2.2.2.2.2.1, hi.2.2.2.2.2.2.2.1, hi.2.2.2.2.2.2.2.2.1, hi.2.2.2.2.2.2.2.2.2.1]
      have q5_ : M3_.1 102 0 = M3_.1 124 40 := by simp only [c0v3_, c1v3_, c2v3_, c3v3_, c4v3_, c5v3_, c6v3_, c7v3_, c8v3_, c9v3_, c10v3_, c11v3_, c12v3_, c13v3_, c14v3_, c15v3_, c16v3_, c17v3_, c0v2_, c1v2_, c2v2_, c3v2_, c4v2_, c5v2_, c6v2_, c7v2_, c8v2_, c9v2_, c10v2_, c11v2_, c12v2_, c13v2_, c14v2_, c15v2_, c16v2_, c17v2_, hi.2.1, hi.2.2.1, hi.2.2.2.1, hi.2.2.2.2.1, hi.2.2.2.2.2.1, hi.2.2.2.2.2.2.1, hi.2.2.2.2.2.2.2.1, hi.2.2.2.2.2.2.2.2.1, hi.2.2.2.2.2.2.2.2.2.1]
      have q6_ : M3_.1 103 0 = M3_.1 124 56 := by simp only [c0v3_, c1v3_, c2v3_, c3v3_, c4v3_, c5v3_, c6v3_, c7v3_, c8v3_, c9v3_, c10v3_, c11v3_, c12v3_, c13v3_, c14v3_, c15v3_, c16v3_, c17v3_, c0v2_, c1v2_, c2v2_, c3v2_, c4v2_, c5v2_, c6v2_, c7v2_, c8v2_, c9v2_, c10v2_, c11v2_, c12v2_, c13v2_, c14v2_, c15v2_, c16v2_, c17v2_, hi.2.1, hi.2.2.1, hi.2.2.2.1, hi.2.2.2.2.1, hi.2.2.2.2.2.1, hi.2.2.2.2.2.2.1, hi.2.2.2.2.2.2.2.1, hi.2.2.2.2.2.2.2.2.1, hi.2.2.2.2.2.2.2.2.2.1]
      have q7_ : M3_.1 104 0 = M3_.1 124 43 := by simp only [c0v3_, c1v3_, c2v3_, c3v3_, c4v3_, c5v3_, c6v3_, c7v3_, c8v3_, c9v3_, c10v3_, c11v3_, c12v3_, c13v3_, c14v3_, c15v3_, c16v3_, c17v3_, c0v2_, c1v2_, c2v2_, c3v2_, c4v2_, c5v2_, c6v2_, c7v2_, c8v2_, c9v2_, c10v2_, c11v2_, c12v2_, c13v2_, c14v2_, c15v2_, c16v2_, c17v2_, hi.2.1, hi.2.2.1, hi.2.2.2.1, hi.2.2.2.2.1, hi.2.2.2.2.2.1, hi.2.2.2.2.2.2.1, hi.2.2.2.2.2.2.2.1, hi.2.2.2.2.2.2.2.2.1, hi.2.2.2.2.2.2.2.2.2.1]
      have q8_ : M3_.1 105 0 = M3_.1 124 57 := by simp only [c0v3_, c1v3_, c2v3_, c3v3_, c4v3_, c5v3_, c6v3_, c7v3_, c8v3_, c9v3_, c10v3_, c11v3_, c12v3_, c13v3_, c14v3_, c15v3_, c16v3_, c17v3_, c0v2_, c1v2_, c2v2_, c3v2_, c4v2_, c5v2_, c6v2_, c7v2_, c8v2_, c9v2_, c10v2_, c11v2_, c12v2_, c13v2_, c14v2_, c15v2_, c16v2_, c17v2_, hi.2.1, hi.2.2.1, hi.2.2.2.1, hi.2.2.2.2.1, hi.2.2.2.2.2.1, hi.2.2.2.2.2.2.1, hi.2.2.2.2.2.2.2.1, hi.2.2.2.2.2.2.2.2.1, hi.2.2.2.2.2.2.2.2.2.1]
      exact ⟨q0_, q1_, q2_, q3_, q4_, q5_, q6_, q7_, q8_, zP1_k hi.2.2.2.2.2.2.2.2.2.2.1 (c0v3_.trans c0v2_) (zKc_t K1v2_ K1v3_) (zKm_t K3v2_ K3v3_), zP2_k hi.2.2.2.2.2.2.2.2.2.2.2.1 (c2v3_.trans c2v2_) (zKc_t K2v2_ K2v3_) (zKm_t K4v2_ K4v3_), zPT_k hi.2.2.2.2.2.2.2.2.2.2.2.2.1 T9v2_ T10v2_ T9v3_ T10v3_, zRr_k hi.2.2.2.2.2.2.2.2.2.2.2.2.2.1 (c8v3_.trans c8v2_) G1v2_ G3v2_ G1v3_ G3v3_, zRr_k hi.2.2.2.2.2.2.2.2.2.2.2.2.2.2.1 (c6v3_.trans c6v2_) G2v2_ G4v2_ G2v3_ G4v3_, zPH_k hi.2.2.2.2.2.2.2.2.2.2.2.2.2.2.2.1 A9v2_ A0v2_ A9v3_ A0v3_, zVe_p hi.2.2.2.2.2.2.2.2.2.2.2.2.2.2.2.2.1 (c0v3_.trans c0v2_) (c1v2_.trans hi.2.1.symm) VSv2_.1 WSv2_ VSv3_ WSv3_.1, zVe_k hi.2.2.2.2.2.2.2.2.2.2.2.2.2.2.2.2.2.1 (c2v3_.trans c2v2_) VKv2_ WKv2_ VKv3_ WKv3_, zHW_d hi.1.1 hi.2.2.2.2.2.2.2.2.2.2.2.2.2.2.2.2.2.2 HBv2_ HDv2_ HBv3_ HDv3_⟩
    refine zr_pop C dL_law_345 rfl ?_
    refine zr_goto (tgt := 1337) C dL_law_346 (by decide) ?_
    exact kk M3_ ⟨iv3_, rv3_⟩
  · refine zr_iconst (v := 1) C dL_law_314 (by decide) ?_
    refine zr_goto (tgt := 319) C dL_law_315 (by decide) ?_
    refine zr_call htab (j := 193) (n := 2) (q := 0) (as := [pvI (xs (i + 1).toNatClampNeg), pvI 1]) (rest := []) C rfl rfl rfl rfl (lw_X9_put M hi.1 (xs (i + 1).toNatClampNeg) 1 (by decide)) (zgV zm_414 zm_415 zm_416 zm_2 zm_417) (by decide +kernel) rfl rfl rfl dL_law_319 rfl rfl (fun r M4_ h4_ => ?_)
    obtain ⟨⟨v4_, rfl⟩, iv4_, c0v4_, c1v4_, c2v4_, c3v4_, c4v4_, c5v4_, c6v4_, c7v4_, c8v4_, c9v4_, c10v4_, c11v4_, c12v4_, c13v4_, c14v4_, c15v4_, c16v4_, c17v4_, K1v4_, K2v4_, K3v4_, K4v4_, T9v4_, T10v4_, G1v4_, G2v4_, G3v4_, G4v4_, A9v4_, A0v4_, VSv4_, VKv4_, WSv4_, WKv4_, HBv4_, HDv4_⟩ := h4_
    refine zr_pop C dL_law_322 rfl ?_
    refine zr_m C dL_law_323 ?_
    refine zr_arg 1 C dL_law_324 dL_law_325 dL_law_326 dL_law_327 dL_law_328 (by decide) (by decide) ?_
    refine zr_arg 2 C dL_law_329 dL_law_330 dL_law_331 dL_law_332 dL_law_333 (by decide) (by decide) ?_
    refine zr_ifeq (tgt := 341) C dL_law_334 (by decide) (fun u => absurd u c1_) (fun _ => ?_)
    refine zr_iconst (v := 1) C dL_law_337 (by decide) ?_
    refine zr_goto (tgt := 342) C dL_law_338 (by decide) ?_
    refine zr_call htab (j := 66) (n := 2) (q := 124) (as := [pvI (xs (i + 1).toNatClampNeg), pvI 1]) (rest := []) C rfl rfl rfl rfl (lw_X10_put M4_ iv4_ (xs (i + 1).toNatClampNeg) 1 (by decide)) (zgV zm_418 zm_419 zm_420 zm_5 zm_421) (by decide +kernel) rfl rfl rfl dL_law_342 rfl rfl (fun r M5_ h5_ => ?_)
    obtain ⟨⟨v5_, rfl⟩, iv5_, c0v5_, c1v5_, c2v5_, c3v5_, c4v5_, c5v5_, c6v5_, c7v5_, c8v5_, c9v5_, c10v5_, c11v5_, c12v5_, c13v5_, c14v5_, c15v5_, c16v5_, c17v5_, K1v5_, K2v5_, K3v5_, K4v5_, T9v5_, T10v5_, G1v5_, G2v5_, G3v5_, G4v5_, A9v5_, A0v5_, VSv5_, VKv5_, WSv5_, WKv5_, HBv5_, HDv5_⟩ := h5_
    have rv5_ : zRl M5_ := by
      have q0_ : M5_.1 8 1 = M5_.1 124 0 := by simp only [c0v5_, c1v5_, c2v5_, c3v5_, c4v5_, c5v5_, c6v5_, c7v5_, c8v5_, c9v5_, c10v5_, c11v5_, c12v5_, c13v5_, c14v5_, c15v5_, c16v5_, c17v5_, c0v4_, c1v4_, c2v4_, c3v4_, c4v4_, c5v4_, c6v4_, c7v4_, c8v4_, c9v4_, c10v4_, c11v4_, c12v4_, c13v4_, c14v4_, c15v4_, c16v4_, c17v4_, hi.2.1, hi.2.2.1, hi.2.2.2.1, hi.2.2.2.2.1, hi.2.2.2.2.2.1, hi.2.2.2.2.2.2.1, hi.2.2.2.2.2.2.2.1, hi.2.2.2.2.2.2.2.2.1, hi.2.2.2.2.2.2.2.2.2.1]
      have q1_ : M5_.1 9 1 = M5_.1 124 48 := by simp only [c0v5_, c1v5_, c2v5_, c3v5_, c4v5_, c5v5_, c6v5_, c7v5_, c8v5_, c9v5_, c10v5_, c11v5_, c12v5_, c13v5_, c14v5_, c15v5_, c16v5_, c17v5_, c0v4_, c1v4_, c2v4_, c3v4_, c4v4_, c5v4_, c6v4_, c7v4_, c8v4_, c9v4_, c10v4_, c11v4_, c12v4_, c13v4_, c14v4_, c15v4_, c16v4_, c17v4_, hi.2.1, hi.2.2.1, hi.2.2.2.1, hi.2.2.2.2.1, hi.2.2.2.2.2.1, hi.2.2.2.2.2.2.1, hi.2.2.2.2.2.2.2.1, hi.2.2.2.2.2.2.2.2.1, hi.2.2.2.2.2.2.2.2.2.1]
      have q2_ : M5_.1 0 5 = M5_.1 124 46 := by simp only [c0v5_, c1v5_, c2v5_, c3v5_, c4v5_, c5v5_, c6v5_, c7v5_, c8v5_, c9v5_, c10v5_, c11v5_, c12v5_, c13v5_, c14v5_, c15v5_, c16v5_, c17v5_, c0v4_, c1v4_, c2v4_, c3v4_, c4v4_, c5v4_, c6v4_, c7v4_, c8v4_, c9v4_, c10v4_, c11v4_, c12v4_, c13v4_, c14v4_, c15v4_, c16v4_, c17v4_, hi.2.1, hi.2.2.1, hi.2.2.2.1, hi.2.2.2.2.1, hi.2.2.2.2.2.1, hi.2.2.2.2.2.2.1, hi.2.2.2.2.2.2.2.1, hi.2.2.2.2.2.2.2.2.1, hi.2.2.2.2.2.2.2.2.2.1]
      have q3_ : M5_.1 101 0 = M5_.1 124 55 := by simp only [c0v5_, c1v5_, c2v5_, c3v5_, c4v5_, c5v5_, c6v5_, c7v5_, c8v5_, c9v5_, c10v5_, c11v5_, c12v5_, c13v5_, c14v5_, c15v5_, c16v5_, c17v5_, c0v4_, c1v4_, c2v4_, c3v4_, c4v4_, c5v4_, c6v4_, c7v4_, c8v4_, c9v4_, c10v4_, c11v4_, c12v4_, c13v4_, c14v4_, c15v4_, c16v4_, c17v4_, hi.2.1, hi.2.2.1, hi.2.2.2.1, hi.2.2.2.2.1, hi.2.2.2.2.2.1, hi.2.2.2.2.2.2.1, hi.2.2.2.2.2.2.2.1, hi.2.2.2.2.2.2.2.2.1, hi.2.2.2.2.2.2.2.2.2.1]
      have q4_ : M5_.1 100 0 = M5_.1 124 37 := by simp only [c0v5_, c1v5_, c2v5_, c3v5_, c4v5_, c5v5_, c6v5_, c7v5_, c8v5_, c9v5_, c10v5_, c11v5_, c12v5_, c13v5_, c14v5_, c15v5_, c16v5_, c17v5_, c0v4_, c1v4_, c2v4_, c3v4_, c4v4_, c5v4_, c6v4_, c7v4_, c8v4_, c9v4_, c10v4_, c11v4_, c12v4_, c13v4_, c14v4_, c15v4_, c16v4_, c17v4_, hi.2.1, hi.2.2.1, hi.2.2.2.1, hi.2.2.2.2.1, hi.2.2.2.2.2.1, hi.2.2.2.2.2.2.1, hi.2.2.2.2.2.2.2.1, hi.2.2.2.2.2.2.2.2.1, hi.2.2.2.2.2.2.2.2.2.1]
      have q5_ : M5_.1 102 0 = M5_.1 124 40 := by simp only [c0v5_, c1v5_, c2v5_, c3v5_, c4v5_, c5v5_, c6v5_, c7v5_, c8v5_, c9v5_, c10v5_, c11v5_, c12v5_, c13v5_, c14v5_, c15v5_, c16v5_, c17v5_, c0v4_, c1v4_, c2v4_, c3v4_, c4v4_, c5v4_, c6v4_, c7v4_, c8v4_, c9v4_, c10v4_, c11v4_, c12v4_, c13v4_, c14v4_, c15v4_, c16v4_, c17v4_, hi.2.1, hi.2.2.1, hi.2.2.2.1, hi.2.2.2.2.1, hi.2.2.2.2.2.1, hi.2.2.2.2.2.2.1, hi.2.2.2.2.2.2.2.1, hi.2.2.2.2.2.2.2.2.1, hi.2.2.2.2.2.2.2.2.2.1]
      have q6_ : M5_.1 103 0 = M5_.1 124 56 := by simp only [c0v5_, c1v5_, c2v5_, c3v5_, c4v5_, c5v5_, c6v5_, c7v5_, c8v5_, c9v5_, c10v5_, c11v5_, c12v5_, c13v5_, c14v5_, c15v5_, c16v5_, c17v5_, c0v4_, c1v4_, c2v4_, c3v4_, c4v4_, c5v4_, c6v4_, c7v4_, c8v4_, c9v4_, c10v4_, c11v4_, c12v4_, c13v4_, c14v4_, c15v4_, c16v4_, c17v4_, hi.2.1, hi.2.2.1, hi.2.2.2.1, hi.2.2.2.2.1, hi.2.2.2.2.2.1, hi.2.2.2.2.2.2.1, hi.2.2.2.2.2.2.2.1, hi.2.2.2.2.2.2.2.2.1, hi.2.2.2.2.2.2.2.2.2.1]
      have q7_ : M5_.1 104 0 = M5_.1 124 43 := by simp only [c0v5_, c1v5_, c2v5_, c3v5_, c4v5_, c5v5_, c6v5_, c7v5_, c8v5_, c9v5_, c10v5_, c11v5_, c12v5_, c13v5_, c14v5_, c15v5_, c16v5_, c17v5_, c0v4_, c1v4_, c2v4_, c3v4_, c4v4_, c5v4_, c6v4_, c7v4_, c8v4_, c9v4_, c10v4_, c11v4_, c12v4_, c13v4_, c14v4_, c15v4_, c16v4_, c17v4_, hi.2.1, hi.2.2.1, hi.2.2.2.1, hi.2.2.2.2.1, hi.2.2.2.2.2.1, hi.2.2.2.2.2.2.1, hi.2.2.2.2.2.2.2.1, hi.2.2.2.2.2.2.2.2.1, hi.2.2.2.2.2.2.2.2.2.1]
      have q8_ : M5_.1 105 0 = M5_.1 124 57 := by simp only [c0v5_, c1v5_, c2v5_, c3v5_, c4v5_, c5v5_, c6v5_, c7v5_, c8v5_, c9v5_, c10v5_, c11v5_, c12v5_, c13v5_, c14v5_, c15v5_, c16v5_, c17v5_, c0v4_, c1v4_, c2v4_, c3v4_, c4v4_, c5v4_, c6v4_, c7v4_, c8v4_, c9v4_, c10v4_, c11v4_, c12v4_, c13v4_, c14v4_, c15v4_, c16v4_, c17v4_, hi.2.1, hi.2.2.1, hi.2.2.2.1, hi.2.2.2.2.1, hi.2.2.2.2.2.1, hi.2.2.2.2.2.2.1, hi.2.2.2.2.2.2.2.1, hi.2.2.2.2.2.2.2.2.1, hi.2.2.2.2.2.2.2.2.2.1]
      exact ⟨q0_, q1_, q2_, q3_, q4_, q5_, q6_, q7_, q8_, zP1_k hi.2.2.2.2.2.2.2.2.2.2.1 (c0v5_.trans c0v4_) (zKc_t K1v4_ K1v5_) (zKm_t K3v4_ K3v5_), zP2_k hi.2.2.2.2.2.2.2.2.2.2.2.1 (c2v5_.trans c2v4_) (zKc_t K2v4_ K2v5_) (zKm_t K4v4_ K4v5_), zPT_k hi.2.2.2.2.2.2.2.2.2.2.2.2.1 T9v4_ T10v4_ T9v5_ T10v5_, zRr_k hi.2.2.2.2.2.2.2.2.2.2.2.2.2.1 (c8v5_.trans c8v4_) G1v4_ G3v4_ G1v5_ G3v5_, zRr_k hi.2.2.2.2.2.2.2.2.2.2.2.2.2.2.1 (c6v5_.trans c6v4_) G2v4_ G4v4_ G2v5_ G4v5_, zPH_k hi.2.2.2.2.2.2.2.2.2.2.2.2.2.2.2.1 A9v4_ A0v4_ A9v5_ A0v5_, zVe_p hi.2.2.2.2.2.2.2.2.2.2.2.2.2.2.2.2.1 (c0v5_.trans c0v4_) (c1v4_.trans hi.2.1.symm) VSv4_.1 WSv4_ VSv5_ WSv5_.1, zVe_k hi.2.2.2.2.2.2.2.2.2.2.2.2.2.2.2.2.2.1 (c2v5_.trans c2v4_) VKv4_ WKv4_ VKv5_ WKv5_, zHW_d hi.1.1 hi.2.2.2.2.2.2.2.2.2.2.2.2.2.2.2.2.2.2 HBv4_ HDv4_ HBv5_ HDv5_⟩
    refine zr_pop C dL_law_345 rfl ?_
    refine zr_goto (tgt := 1337) C dL_law_346 (by decide) ?_
    exact kk M5_ ⟨iv5_, rv5_⟩
set_option maxRecDepth 10000 in
theorem zl_case_3 (htab : pvTab) {p : Program} {l : Launch} {e : Env} {s : State} {m : MethodId} {below : List Frame} {meth : Method} {c : Code} {b L : Nat} {xs : Nat → Int32} {D : va_G} {y : Nat → ClassId} {ad : Nat → Nat} {ls : Array Slot} {i : Int32} {Q : State → Prop} {M : pvM} (C : zLc p s m c b L xs D y ad ls i) (hi : zIR M) (kk : ∀ M1, zIR M1 → zLW p l e s m below meth c b D y ad ls Q 1337 [] M1) : zLW p l e s m below meth c b D y ad ls Q 349 [] M := by
  refine zr_x C dL_law_349 ?_
  refine zr_arg 1 C dL_law_350 dL_law_351 dL_law_352 dL_law_353 dL_law_354 (by decide) (by decide) ?_
  refine zr_arg 2 C dL_law_355 dL_law_356 dL_law_357 dL_law_358 dL_law_359 (by decide) (by decide) ?_
  refine zr_arg 3 C dL_law_360 dL_law_361 dL_law_362 dL_law_363 dL_law_364 (by decide) (by decide) ?_
  refine zr_call htab (j := 196) (n := 3) (q := 0) (as := [pvI (xs (i + 1).toNatClampNeg), pvI (xs (i + 2).toNatClampNeg), pvI (xs (i + 3).toNatClampNeg)]) (rest := []) C rfl rfl rfl rfl (lw_X9_row M hi.1 (xs (i + 1).toNatClampNeg) (xs (i + 2).toNatClampNeg) (xs (i + 3).toNatClampNeg)) (zgV zm_422 zm_423 zm_424 zm_2 zm_425) (by decide +kernel) rfl rfl rfl dL_law_365 rfl rfl (fun r M1_ h1_ => ?_)
  obtain ⟨⟨v1_, rfl, ev1_⟩, iv1_, c0v1_, c1v1_, c2v1_, c3v1_, c4v1_, c5v1_, c6v1_, c7v1_, c8v1_, c9v1_, c10v1_, c11v1_, c12v1_, c13v1_, c14v1_, c15v1_, c16v1_, c17v1_, K1v1_, K2v1_, K3v1_, K4v1_, T9v1_, T10v1_, G1v1_, G2v1_, G3v1_, G4v1_, A9v1_, A0v1_, VSv1_, VKv1_, WSv1_, WKv1_, HBv1_, HDv1_⟩ := h1_
  refine zr_pop C dL_law_368 rfl ?_
  refine zr_m C dL_law_369 ?_
  refine zr_arg 1 C dL_law_370 dL_law_371 dL_law_372 dL_law_373 dL_law_374 (by decide) (by decide) ?_
  refine zr_arg 2 C dL_law_375 dL_law_376 dL_law_377 dL_law_378 dL_law_379 (by decide) (by decide) ?_
  refine zr_arg 3 C dL_law_380 dL_law_381 dL_law_382 dL_law_383 dL_law_384 (by decide) (by decide) ?_
  refine zr_call htab (j := 70) (n := 3) (q := 124) (as := [pvI (xs (i + 1).toNatClampNeg), pvI (xs (i + 2).toNatClampNeg), pvI (xs (i + 3).toNatClampNeg)]) (rest := []) C rfl rfl rfl rfl (lw_X10_row M1_ iv1_ (xs (i + 1).toNatClampNeg) (xs (i + 2).toNatClampNeg) (xs (i + 3).toNatClampNeg)) (zgV zm_427 zm_428 zm_429 zm_5 zm_430) (by decide +kernel) rfl rfl rfl dL_law_385 rfl rfl (fun r M2_ h2_ => ?_)
  obtain ⟨⟨v2_, rfl, ev2_⟩, iv2_, c0v2_, c1v2_, c2v2_, c3v2_, c4v2_, c5v2_, c6v2_, c7v2_, c8v2_, c9v2_, c10v2_, c11v2_, c12v2_, c13v2_, c14v2_, c15v2_, c16v2_, c17v2_, K1v2_, K2v2_, K3v2_, K4v2_, T9v2_, T10v2_, G1v2_, G2v2_, G3v2_, G4v2_, A9v2_, A0v2_, VSv2_, VKv2_, WSv2_, WKv2_, HBv2_, HDv2_⟩ := h2_
  have rv2_ : zRl M2_ := by
    have q0_ : M2_.1 8 1 = M2_.1 124 0 := by simp only [c0v2_, c1v2_, c2v2_, c3v2_, c4v2_, c5v2_, c6v2_, c7v2_, c8v2_, c9v2_, c10v2_, c11v2_, c12v2_, c13v2_, c14v2_, c15v2_, c16v2_, c17v2_, c0v1_, c1v1_, c2v1_, c3v1_, c4v1_, c5v1_, c6v1_, c7v1_, c8v1_, c9v1_, c10v1_, c11v1_, c12v1_, c13v1_, c14v1_, c15v1_, c16v1_, c17v1_, hi.2.1, hi.2.2.1, hi.2.2.2.1, hi.2.2.2.2.1, hi.2.2.2.2.2.1, hi.2.2.2.2.2.2.1, hi.2.2.2.2.2.2.2.1, hi.2.2.2.2.2.2.2.2.1, hi.2.2.2.2.2.2.2.2.2.1]
    have q1_ : M2_.1 9 1 = M2_.1 124 48 := by simp only [c0v2_, c1v2_, c2v2_, c3v2_, c4v2_, c5v2_, c6v2_, c7v2_, c8v2_, c9v2_, c10v2_, c11v2_, c12v2_, c13v2_, c14v2_, c15v2_, c16v2_, c17v2_, c0v1_, c1v1_, c2v1_, c3v1_, c4v1_, c5v1_, c6v1_, c7v1_, c8v1_, c9v1_, c10v1_, c11v1_, c12v1_, c13v1_, c14v1_, c15v1_, c16v1_, c17v1_, hi.2.1, hi.2.2.1, hi.2.2.2.1, hi.2.2.2.2.1, hi.2.2.2.2.2.1, hi.2.2.2.2.2.2.1, hi.2.2.2.2.2.2.2.1, hi.2.2.2.2.2.2.2.2.1, hi.2.2.2.2.2.2.2.2.2.1]
    have q2_ : M2_.1 0 5 = M2_.1 124 46 := by simp only [c0v2_, c1v2_, c2v2_, c3v2_, c4v2_, c5v2_, c6v2_, c7v2_, c8v2_, c9v2_, c10v2_, c11v2_, c12v2_, c13v2_, c14v2_, c15v2_, c16v2_, c17v2_, c0v1_, c1v1_, c2v1_, c3v1_, c4v1_, c5v1_, c6v1_, c7v1_, c8v1_, c9v1_, c10v1_, c11v1_, c12v1_, c13v1_, c14v1_, c15v1_, c16v1_, c17v1_, hi.2.1, hi.2.2.1, hi.2.2.2.1, hi.2.2.2.2.1, hi.2.2.2.2.2.1, hi.2.2.2.2.2.2.1, hi.2.2.2.2.2.2.2.1, hi.2.2.2.2.2.2.2.2.1, hi.2.2.2.2.2.2.2.2.2.1]
    have q3_ : M2_.1 101 0 = M2_.1 124 55 := by simp only [c0v2_, c1v2_, c2v2_, c3v2_, c4v2_, c5v2_, c6v2_, c7v2_, c8v2_, c9v2_, c10v2_, c11v2_, c12v2_, c13v2_, c14v2_, c15v2_, c16v2_, c17v2_, c0v1_, c1v1_, c2v1_, c3v1_, c4v1_, c5v1_, c6v1_, c7v1_, c8v1_, c9v1_, c10v1_, c11v1_, c12v1_, c13v1_, c14v1_, c15v1_, c16v1_, c17v1_, hi.2.1, hi.2.2.1, hi.2.2.2.1, hi.2.2.2.2.1, hi.2.2.2.2.2.1, hi.2.2.2.2.2.2.1, hi.2.2.2.2.2.2.2.1, hi.2.2.2.2.2.2.2.2.1, hi.2.2.2.2.2.2.2.2.2.1]
    have q4_ : M2_.1 100 0 = M2_.1 124 37 := by simp only [c0v2_, c1v2_, c2v2_, c3v2_, c4v2_, c5v2_, c6v2_, c7v2_, c8v2_, c9v2_, c10v2_, c11v2_, c12v2_, c13v2_, c14v2_, c15v2_, c16v2_, c17v2_, c0v1_, c1v1_, c2v1_, c3v1_, c4v1_, c5v1_, c6v1_, c7v1_, c8v1_, c9v1_, c10v1_, c11v1_, c12v1_, c13v1_, c14v1_, c15v1_, c16v1_, c17v1_, hi.2.1, hi.2.2.1, hi.2.2.2.1, hi.2.2.2.2.1, hi.2.2.2.2.2.1, hi.2.2.2.2.2.2.1, hi.2.2.2.2.2.2.2.1, hi.2.2.2.2.2.2.2.2.1, hi.2.2.2.2.2.2.2.2.2.1]
    have q5_ : M2_.1 102 0 = M2_.1 124 40 := by simp only [c0v2_, c1v2_, c2v2_, c3v2_, c4v2_, c5v2_, c6v2_, c7v2_, c8v2_, c9v2_, c10v2_, c11v2_, c12v2_, c13v2_, c14v2_, c15v2_, c16v2_, c17v2_, c0v1_, c1v1_, c2v1_, c3v1_, c4v1_, c5v1_, c6v1_, c7v1_, c8v1_, c9v1_, c10v1_, c11v1_, c12v1_, c13v1_, c14v1_, c15v1_, c16v1_, c17v1_, hi.2.1, hi.2.2.1, hi.2.2.2.1, hi.2.2.2.2.1, hi.2.2.2.2.2.1, hi.2.2.2.2.2.2.1, hi.2.2.2.2.2.2.2.1, hi.2.2.2.2.2.2.2.2.1, hi.2.2.2.2.2.2.2.2.2.1]
    have q6_ : M2_.1 103 0 = M2_.1 124 56 := by simp only [c0v2_, c1v2_, c2v2_, c3v2_, c4v2_, c5v2_, c6v2_, c7v2_, c8v2_, c9v2_, c10v2_, c11v2_, c12v2_, c13v2_, c14v2_, c15v2_, c16v2_, c17v2_, c0v1_, c1v1_, c2v1_, c3v1_, c4v1_, c5v1_, c6v1_, c7v1_, c8v1_, c9v1_, c10v1_, c11v1_, c12v1_, c13v1_, c14v1_, c15v1_, c16v1_, c17v1_, hi.2.1, hi.2.2.1, hi.2.2.2.1, hi.2.2.2.2.1, hi.2.2.2.2.2.1, hi.2.2.2.2.2.2.1, hi.2.2.2.2.2.2.2.1, hi.2.2.2.2.2.2.2.2.1, hi.2.2.2.2.2.2.2.2.2.1]
    have q7_ : M2_.1 104 0 = M2_.1 124 43 := by simp only [c0v2_, c1v2_, c2v2_, c3v2_, c4v2_, c5v2_, c6v2_, c7v2_, c8v2_, c9v2_, c10v2_, c11v2_, c12v2_, c13v2_, c14v2_, c15v2_, c16v2_, c17v2_, c0v1_, c1v1_, c2v1_, c3v1_, c4v1_, c5v1_, c6v1_, c7v1_, c8v1_, c9v1_, c10v1_, c11v1_, c12v1_, c13v1_, c14v1_, c15v1_, c16v1_, c17v1_, hi.2.1, hi.2.2.1, hi.2.2.2.1, hi.2.2.2.2.1, hi.2.2.2.2.2.1, hi.2.2.2.2.2.2.1, hi.2.2.2.2.2.2.2.1, hi.2.2.2.2.2.2.2.2.1, hi.2.2.2.2.2.2.2.2.2.1]
    have q8_ : M2_.1 105 0 = M2_.1 124 57 := by simp only [c0v2_, c1v2_, c2v2_, c3v2_, c4v2_, c5v2_, c6v2_, c7v2_, c8v2_, c9v2_, c10v2_, c11v2_, c12v2_, c13v2_, c14v2_, c15v2_, c16v2_, c17v2_, c0v1_, c1v1_, c2v1_, c3v1_, c4v1_, c5v1_, c6v1_, c7v1_, c8v1_, c9v1_, c10v1_, c11v1_, c12v1_, c13v1_, c14v1_, c15v1_, c16v1_, c17v1_, hi.2.1, hi.2.2.1, hi.2.2.2.1, hi.2.2.2.2.1, hi.2.2.2.2.2.1, hi.2.2.2.2.2.2.1, hi.2.2.2.2.2.2.2.1, hi.2.2.2.2.2.2.2.2.1, hi.2.2.2.2.2.2.2.2.2.1]
    exact ⟨q0_, q1_, q2_, q3_, q4_, q5_, q6_, q7_, q8_, zP1_v hi.2.2.2.2.2.2.2.2.2.2.1 (by rw [ev1_, ev2_]; exact zq_row M M1_ (c1v1_.trans hi.2.1.symm) (pvok_r hi.1.1 8 1 rfl) (fun i hi_ hn => ⟨fun f hf => ((hi.2.2.2.2.2.2.2.2.2.2.1 i hi_ hn).1 f hf).trans ((K3v1_ i hi_).1 f hf).symm, fun j hj => ((hi.2.2.2.2.2.2.2.2.2.2.1 i hi_ hn).2 j hj).trans ((K3v1_ i hi_).2 j hj).symm⟩) _ _ _) K1v1_ K3v1_ K3v2_ K1v2_ (c0v2_.trans c0v1_), zP2_k hi.2.2.2.2.2.2.2.2.2.2.2.1 (c2v2_.trans c2v1_) (zKc_t K2v1_ K2v2_) (zKm_t K4v1_ K4v2_), zPT_k hi.2.2.2.2.2.2.2.2.2.2.2.2.1 T9v1_ T10v1_ T9v2_ T10v2_, zRr_k hi.2.2.2.2.2.2.2.2.2.2.2.2.2.1 (c8v2_.trans c8v1_) G1v1_ G3v1_ G1v2_ G3v2_, zRr_k hi.2.2.2.2.2.2.2.2.2.2.2.2.2.2.1 (c6v2_.trans c6v1_) G2v1_ G4v1_ G2v2_ G4v2_, zPH_k hi.2.2.2.2.2.2.2.2.2.2.2.2.2.2.2.1 A9v1_ A0v1_ A9v2_ A0v2_, zVe_k hi.2.2.2.2.2.2.2.2.2.2.2.2.2.2.2.2.1 (c0v2_.trans c0v1_) VSv1_ WSv1_ VSv2_ WSv2_, zVe_k hi.2.2.2.2.2.2.2.2.2.2.2.2.2.2.2.2.2.1 (c2v2_.trans c2v1_) VKv1_ WKv1_ VKv2_ WKv2_, zHW_d hi.1.1 hi.2.2.2.2.2.2.2.2.2.2.2.2.2.2.2.2.2.2 HBv1_ HDv1_ HBv2_ HDv2_⟩
  refine zr_pop C dL_law_388 rfl ?_
  refine zr_goto (tgt := 1337) C dL_law_389 (by decide) ?_
  exact kk M2_ ⟨iv2_, rv2_⟩
set_option maxRecDepth 10000 in
theorem zl_case_4 (htab : pvTab) {p : Program} {l : Launch} {e : Env} {s : State} {m : MethodId} {below : List Frame} {meth : Method} {c : Code} {b L : Nat} {xs : Nat → Int32} {D : va_G} {y : Nat → ClassId} {ad : Nat → Nat} {ls : Array Slot} {i : Int32} {Q : State → Prop} {M : pvM} (C : zLc p s m c b L xs D y ad ls i) (hi : zIR M) (kk : ∀ M1, zIR M1 → zLW p l e s m below meth c b D y ad ls Q 1337 [] M1) : zLW p l e s m below meth c b D y ad ls Q 392 [] M := by
  refine zr_x C dL_law_392 ?_
  refine zr_arg 1 C dL_law_393 dL_law_394 dL_law_395 dL_law_396 dL_law_397 (by decide) (by decide) ?_
  refine zr_arg 2 C dL_law_398 dL_law_399 dL_law_400 dL_law_401 dL_law_402 (by decide) (by decide) ?_
  refine zr_call htab (j := 202) (n := 2) (q := 0) (as := [pvI (xs (i + 1).toNatClampNeg), pvI (xs (i + 2).toNatClampNeg)]) (rest := []) C rfl rfl rfl rfl (lw_X9_storm M hi.1 (xs (i + 1).toNatClampNeg) (xs (i + 2).toNatClampNeg)) (zgV zm_431 zm_432 zm_433 zm_2 zm_434) (by decide +kernel) rfl rfl rfl dL_law_403 rfl rfl (fun r M1_ h1_ => ?_)
  obtain ⟨⟨v1_, rfl, ev1_⟩, iv1_, c0v1_, c1v1_, c2v1_, c3v1_, c4v1_, c5v1_, c6v1_, c7v1_, c8v1_, c9v1_, c10v1_, c11v1_, c12v1_, c13v1_, c14v1_, c15v1_, c16v1_, c17v1_, K1v1_, K2v1_, K3v1_, K4v1_, T9v1_, T10v1_, G1v1_, G2v1_, G3v1_, G4v1_, A9v1_, A0v1_, VSv1_, VKv1_, WSv1_, WKv1_, HBv1_, HDv1_⟩ := h1_
  refine zr_pop C dL_law_406 rfl ?_
  refine zr_m C dL_law_407 ?_
  refine zr_arg 1 C dL_law_408 dL_law_409 dL_law_410 dL_law_411 dL_law_412 (by decide) (by decide) ?_
  refine zr_arg 2 C dL_law_413 dL_law_414 dL_law_415 dL_law_416 dL_law_417 (by decide) (by decide) ?_
  refine zr_call htab (j := 80) (n := 2) (q := 124) (as := [pvI (xs (i + 1).toNatClampNeg), pvI (xs (i + 2).toNatClampNeg)]) (rest := []) C rfl rfl rfl rfl (lw_X10_storm M1_ iv1_ (xs (i + 1).toNatClampNeg) (xs (i + 2).toNatClampNeg)) (zgV zm_437 zm_438 zm_439 zm_5 zm_440) (by decide +kernel) rfl rfl rfl dL_law_418 rfl rfl (fun r M2_ h2_ => ?_)
  obtain ⟨⟨v2_, rfl, ev2_⟩, iv2_, c0v2_, c1v2_, c2v2_, c3v2_, c4v2_, c5v2_, c6v2_, c7v2_, c8v2_, c9v2_, c10v2_, c11v2_, c12v2_, c13v2_, c14v2_, c15v2_, c16v2_, c17v2_, K1v2_, K2v2_, K3v2_, K4v2_, T9v2_, T10v2_, G1v2_, G2v2_, G3v2_, G4v2_, A9v2_, A0v2_, VSv2_, VKv2_, WSv2_, WKv2_, HBv2_, HDv2_⟩ := h2_
  have rv2_ : zRl M2_ := by
    have q0_ : M2_.1 8 1 = M2_.1 124 0 := by simp only [c0v2_, c1v2_, c2v2_, c3v2_, c4v2_, c5v2_, c6v2_, c7v2_, c8v2_, c9v2_, c10v2_, c11v2_, c12v2_, c13v2_, c14v2_, c15v2_, c16v2_, c17v2_, c0v1_, c1v1_, c2v1_, c3v1_, c4v1_, c5v1_, c6v1_, c7v1_, c8v1_, c9v1_, c10v1_, c11v1_, c12v1_, c13v1_, c14v1_, c15v1_, c16v1_, c17v1_, hi.2.1, hi.2.2.1, hi.2.2.2.1, hi.2.2.2.2.1, hi.2.2.2.2.2.1, hi.2.2.2.2.2.2.1, hi.2.2.2.2.2.2.2.1, hi.2.2.2.2.2.2.2.2.1, hi.2.2.2.2.2.2.2.2.2.1]
    have q1_ : M2_.1 9 1 = M2_.1 124 48 := by simp only [c0v2_, c1v2_, c2v2_, c3v2_, c4v2_, c5v2_, c6v2_, c7v2_, c8v2_, c9v2_, c10v2_, c11v2_, c12v2_, c13v2_, c14v2_, c15v2_, c16v2_, c17v2_, c0v1_, c1v1_, c2v1_, c3v1_, c4v1_, c5v1_, c6v1_, c7v1_, c8v1_, c9v1_, c10v1_, c11v1_, c12v1_, c13v1_, c14v1_, c15v1_, c16v1_, c17v1_, hi.2.1, hi.2.2.1, hi.2.2.2.1, hi.2.2.2.2.1, hi.2.2.2.2.2.1, hi.2.2.2.2.2.2.1, hi.2.2.2.2.2.2.2.1, hi.2.2.2.2.2.2.2.2.1, hi.2.2.2.2.2.2.2.2.2.1]
    have q2_ : M2_.1 0 5 = M2_.1 124 46 := by simp only [c0v2_, c1v2_, c2v2_, c3v2_, c4v2_, c5v2_, c6v2_, c7v2_, c8v2_, c9v2_, c10v2_, c11v2_, c12v2_, c13v2_, c14v2_, c15v2_, c16v2_, c17v2_, c0v1_, c1v1_, c2v1_, c3v1_, c4v1_, c5v1_, c6v1_, c7v1_, c8v1_, c9v1_, c10v1_, c11v1_, c12v1_, c13v1_, c14v1_, c15v1_, c16v1_, c17v1_, hi.2.1, hi.2.2.1, hi.2.2.2.1, hi.2.2.2.2.1, hi.2.2.2.2.2.1, hi.2.2.2.2.2.2.1, hi.2.2.2.2.2.2.2.1, hi.2.2.2.2.2.2.2.2.1, hi.2.2.2.2.2.2.2.2.2.1]
    have q3_ : M2_.1 101 0 = M2_.1 124 55 := by simp only [c0v2_, c1v2_, c2v2_, c3v2_, c4v2_, c5v2_, c6v2_, c7v2_, c8v2_, c9v2_, c10v2_, c11v2_, c12v2_, c13v2_, c14v2_, c15v2_, c16v2_, c17v2_, c0v1_, c1v1_, c2v1_, c3v1_, c4v1_, c5v1_, c6v1_, c7v1_, c8v1_, c9v1_, c10v1_, c11v1_, c12v1_, c13v1_, c14v1_, c15v1_, c16v1_, c17v1_, hi.2.1, hi.2.2.1, hi.2.2.2.1, hi.2.2.2.2.1, hi.2.2.2.2.2.1, hi.2.2.2.2.2.2.1, hi.2.2.2.2.2.2.2.1, hi.2.2.2.2.2.2.2.2.1, hi.2.2.2.2.2.2.2.2.2.1]
    have q4_ : M2_.1 100 0 = M2_.1 124 37 := by simp only [c0v2_, c1v2_, c2v2_, c3v2_, c4v2_, c5v2_, c6v2_, c7v2_, c8v2_, c9v2_, c10v2_, c11v2_, c12v2_, c13v2_, c14v2_, c15v2_, c16v2_, c17v2_, c0v1_, c1v1_, c2v1_, c3v1_, c4v1_, c5v1_, c6v1_, c7v1_, c8v1_, c9v1_, c10v1_, c11v1_, c12v1_, c13v1_, c14v1_, c15v1_, c16v1_, c17v1_, hi.2.1, hi.2.2.1, hi.2.2.2.1, hi.2.2.2.2.1, hi.2.2.2.2.2.1, hi.2.2.2.2.2.2.1, hi.2.2.2.2.2.2.2.1, hi.2.2.2.2.2.2.2.2.1, hi.2.2.2.2.2.2.2.2.2.1]
    have q5_ : M2_.1 102 0 = M2_.1 124 40 := by simp only [c0v2_, c1v2_, c2v2_, c3v2_, c4v2_, c5v2_, c6v2_, c7v2_, c8v2_, c9v2_, c10v2_, c11v2_, c12v2_, c13v2_, c14v2_, c15v2_, c16v2_, c17v2_, c0v1_, c1v1_, c2v1_, c3v1_, c4v1_, c5v1_, c6v1_, c7v1_, c8v1_, c9v1_, c10v1_, c11v1_, c12v1_, c13v1_, c14v1_, c15v1_, c16v1_, c17v1_, hi.2.1, hi.2.2.1, hi.2.2.2.1, hi.2.2.2.2.1, hi.2.2.2.2.2.1, hi.2.2.2.2.2.2.1, hi.2.2.2.2.2.2.2.1, hi.2.2.2.2.2.2.2.2.1, hi.2.2.2.2.2.2.2.2.2.1]
    have q6_ : M2_.1 103 0 = M2_.1 124 56 := by simp only [c0v2_, c1v2_, c2v2_, c3v2_, c4v2_, c5v2_, c6v2_, c7v2_, c8v2_, c9v2_, c10v2_, c11v2_, c12v2_, c13v2_, c14v2_, c15v2_, c16v2_, c17v2_, c0v1_, c1v1_, c2v1_, c3v1_, c4v1_, c5v1_, c6v1_, c7v1_, c8v1_, c9v1_, c10v1_, c11v1_, c12v1_, c13v1_, c14v1_, c15v1_, c16v1_, c17v1_, hi.2.1, hi.2.2.1, hi.2.2.2.1, hi.2.2.2.2.1, hi.2.2.2.2.2.1, hi.2.2.2.2.2.2.1, hi.2.2.2.2.2.2.2.1, hi.2.2.2.2.2.2.2.2.1, hi.2.2.2.2.2.2.2.2.2.1]
    have q7_ : M2_.1 104 0 = M2_.1 124 43 := by simp only [c0v2_, c1v2_, c2v2_, c3v2_, c4v2_, c5v2_, c6v2_, c7v2_, c8v2_, c9v2_, c10v2_, c11v2_, c12v2_, c13v2_, c14v2_, c15v2_, c16v2_, c17v2_, c0v1_, c1v1_, c2v1_, c3v1_, c4v1_, c5v1_, c6v1_, c7v1_, c8v1_, c9v1_, c10v1_, c11v1_, c12v1_, c13v1_, c14v1_, c15v1_, c16v1_, c17v1_, hi.2.1, hi.2.2.1, hi.2.2.2.1, hi.2.2.2.2.1, hi.2.2.2.2.2.1, hi.2.2.2.2.2.2.1, hi.2.2.2.2.2.2.2.1, hi.2.2.2.2.2.2.2.2.1, hi.2.2.2.2.2.2.2.2.2.1]
    have q8_ : M2_.1 105 0 = M2_.1 124 57 := by simp only [c0v2_, c1v2_, c2v2_, c3v2_, c4v2_, c5v2_, c6v2_, c7v2_, c8v2_, c9v2_, c10v2_, c11v2_, c12v2_, c13v2_, c14v2_, c15v2_, c16v2_, c17v2_, c0v1_, c1v1_, c2v1_, c3v1_, c4v1_, c5v1_, c6v1_, c7v1_, c8v1_, c9v1_, c10v1_, c11v1_, c12v1_, c13v1_, c14v1_, c15v1_, c16v1_, c17v1_, hi.2.1, hi.2.2.1, hi.2.2.2.1, hi.2.2.2.2.1, hi.2.2.2.2.2.1, hi.2.2.2.2.2.2.1, hi.2.2.2.2.2.2.2.1, hi.2.2.2.2.2.2.2.2.1, hi.2.2.2.2.2.2.2.2.2.1]
    exact ⟨q0_, q1_, q2_, q3_, q4_, q5_, q6_, q7_, q8_, zP1_k hi.2.2.2.2.2.2.2.2.2.2.1 (c0v2_.trans c0v1_) (zKc_t K1v1_ K1v2_) (zKm_t K3v1_ K3v2_), zP2_k hi.2.2.2.2.2.2.2.2.2.2.2.1 (c2v2_.trans c2v1_) (zKc_t K2v1_ K2v2_) (zKm_t K4v1_ K4v2_), zPT_k hi.2.2.2.2.2.2.2.2.2.2.2.2.1 T9v1_ T10v1_ T9v2_ T10v2_, zRr_k hi.2.2.2.2.2.2.2.2.2.2.2.2.2.1 (c8v2_.trans c8v1_) G1v1_ G3v1_ G1v2_ G3v2_, zRr_k hi.2.2.2.2.2.2.2.2.2.2.2.2.2.2.1 (c6v2_.trans c6v1_) G2v1_ G4v1_ G2v2_ G4v2_, zPH_k hi.2.2.2.2.2.2.2.2.2.2.2.2.2.2.2.1 A9v1_ A0v1_ A9v2_ A0v2_, zVe_k hi.2.2.2.2.2.2.2.2.2.2.2.2.2.2.2.2.1 (c0v2_.trans c0v1_) VSv1_ WSv1_ VSv2_ WSv2_, zVe_k hi.2.2.2.2.2.2.2.2.2.2.2.2.2.2.2.2.2.1 (c2v2_.trans c2v1_) VKv1_ WKv1_ VKv2_ WKv2_, zHW_d hi.1.1 hi.2.2.2.2.2.2.2.2.2.2.2.2.2.2.2.2.2.2 HBv1_ HDv1_ HBv2_ HDv2_⟩
  refine zr_pop C dL_law_421 rfl ?_
  refine zr_goto (tgt := 1337) C dL_law_422 (by decide) ?_
  exact kk M2_ ⟨iv2_, rv2_⟩
set_option maxRecDepth 10000 in
theorem zl_case_5 (htab : pvTab) {p : Program} {l : Launch} {e : Env} {s : State} {m : MethodId} {below : List Frame} {meth : Method} {c : Code} {b L : Nat} {xs : Nat → Int32} {D : va_G} {y : Nat → ClassId} {ad : Nat → Nat} {ls : Array Slot} {i : Int32} {Q : State → Prop} {M : pvM} (C : zLc p s m c b L xs D y ad ls i) (hi : zIR M) (kk : ∀ M1, zIR M1 → zLW p l e s m below meth c b D y ad ls Q 1337 [] M1) : zLW p l e s m below meth c b D y ad ls Q 425 [] M := by
  refine zr_x C dL_law_425 ?_
  refine zr_arg 1 C dL_law_426 dL_law_427 dL_law_428 dL_law_429 dL_law_430 (by decide) (by decide) ?_
  refine zr_arg 2 C dL_law_431 dL_law_432 dL_law_433 dL_law_434 dL_law_435 (by decide) (by decide) ?_
  refine zr_call htab (j := 201) (n := 2) (q := 0) (as := [pvI (xs (i + 1).toNatClampNeg), pvI (xs (i + 2).toNatClampNeg)]) (rest := []) C rfl rfl rfl rfl (lw_X9_stand M hi.1 (xs (i + 1).toNatClampNeg) (xs (i + 2).toNatClampNeg)) (zgV zm_441 zm_442 zm_443 zm_2 zm_444) (by decide +kernel) rfl rfl rfl dL_law_436 rfl rfl (fun r M1_ h1_ => ?_)
  obtain ⟨⟨v1_, rfl, ev1_⟩, iv1_, c0v1_, c1v1_, c2v1_, c3v1_, c4v1_, c5v1_, c6v1_, c7v1_, c8v1_, c9v1_, c10v1_, c11v1_, c12v1_, c13v1_, c14v1_, c15v1_, c16v1_, c17v1_, K1v1_, K2v1_, K3v1_, K4v1_, T9v1_, T10v1_, G1v1_, G2v1_, G3v1_, G4v1_, A9v1_, A0v1_, VSv1_, VKv1_, WSv1_, WKv1_, HBv1_, HDv1_⟩ := h1_
  refine zr_pop C dL_law_439 rfl ?_
  refine zr_m C dL_law_440 ?_
  refine zr_arg 1 C dL_law_441 dL_law_442 dL_law_443 dL_law_444 dL_law_445 (by decide) (by decide) ?_
  refine zr_arg 2 C dL_law_446 dL_law_447 dL_law_448 dL_law_449 dL_law_450 (by decide) (by decide) ?_
  refine zr_call htab (j := 78) (n := 2) (q := 124) (as := [pvI (xs (i + 1).toNatClampNeg), pvI (xs (i + 2).toNatClampNeg)]) (rest := []) C rfl rfl rfl rfl (lw_X10_stand M1_ iv1_ (xs (i + 1).toNatClampNeg) (xs (i + 2).toNatClampNeg)) (zgV zm_445 zm_446 zm_447 zm_5 zm_448) (by decide +kernel) rfl rfl rfl dL_law_451 rfl rfl (fun r M2_ h2_ => ?_)
  obtain ⟨⟨v2_, rfl, ev2_⟩, iv2_, c0v2_, c1v2_, c2v2_, c3v2_, c4v2_, c5v2_, c6v2_, c7v2_, c8v2_, c9v2_, c10v2_, c11v2_, c12v2_, c13v2_, c14v2_, c15v2_, c16v2_, c17v2_, K1v2_, K2v2_, K3v2_, K4v2_, T9v2_, T10v2_, G1v2_, G2v2_, G3v2_, G4v2_, A9v2_, A0v2_, VSv2_, VKv2_, WSv2_, WKv2_, HBv2_, HDv2_⟩ := h2_
  have rv2_ : zRl M2_ := by
    have q0_ : M2_.1 8 1 = M2_.1 124 0 := by simp only [c0v2_, c1v2_, c2v2_, c3v2_, c4v2_, c5v2_, c6v2_, c7v2_, c8v2_, c9v2_, c10v2_, c11v2_, c12v2_, c13v2_, c14v2_, c15v2_, c16v2_, c17v2_, c0v1_, c1v1_, c2v1_, c3v1_, c4v1_, c5v1_, c6v1_, c7v1_, c8v1_, c9v1_, c10v1_, c11v1_, c12v1_, c13v1_, c14v1_, c15v1_, c16v1_, c17v1_, hi.2.1, hi.2.2.1, hi.2.2.2.1, hi.2.2.2.2.1, hi.2.2.2.2.2.1, hi.2.2.2.2.2.2.1, hi.2.2.2.2.2.2.2.1, hi.2.2.2.2.2.2.2.2.1, hi.2.2.2.2.2.2.2.2.2.1]
    have q1_ : M2_.1 9 1 = M2_.1 124 48 := by simp only [c0v2_, c1v2_, c2v2_, c3v2_, c4v2_, c5v2_, c6v2_, c7v2_, c8v2_, c9v2_, c10v2_, c11v2_, c12v2_, c13v2_, c14v2_, c15v2_, c16v2_, c17v2_, c0v1_, c1v1_, c2v1_, c3v1_, c4v1_, c5v1_, c6v1_, c7v1_, c8v1_, c9v1_, c10v1_, c11v1_, c12v1_, c13v1_, c14v1_, c15v1_, c16v1_, c17v1_, hi.2.1, hi.2.2.1, hi.2.2.2.1, hi.2.2.2.2.1, hi.2.2.2.2.2.1, hi.2.2.2.2.2.2.1, hi.2.2.2.2.2.2.2.1, hi.2.2.2.2.2.2.2.2.1, hi.2.2.2.2.2.2.2.2.2.1]
    have q2_ : M2_.1 0 5 = M2_.1 124 46 := by simp only [c0v2_, c1v2_, c2v2_, c3v2_, c4v2_, c5v2_, c6v2_, c7v2_, c8v2_, c9v2_, c10v2_, c11v2_, c12v2_, c13v2_, c14v2_, c15v2_, c16v2_, c17v2_, c0v1_, c1v1_, c2v1_, c3v1_, c4v1_, c5v1_, c6v1_, c7v1_, c8v1_, c9v1_, c10v1_, c11v1_, c12v1_, c13v1_, c14v1_, c15v1_, c16v1_, c17v1_, hi.2.1, hi.2.2.1, hi.2.2.2.1, hi.2.2.2.2.1, hi.2.2.2.2.2.1, hi.2.2.2.2.2.2.1, hi.2.2.2.2.2.2.2.1, hi.2.2.2.2.2.2.2.2.1, hi.2.2.2.2.2.2.2.2.2.1]
    have q3_ : M2_.1 101 0 = M2_.1 124 55 := by simp only [c0v2_, c1v2_, c2v2_, c3v2_, c4v2_, c5v2_, c6v2_, c7v2_, c8v2_, c9v2_, c10v2_, c11v2_, c12v2_, c13v2_, c14v2_, c15v2_, c16v2_, c17v2_, c0v1_, c1v1_, c2v1_, c3v1_, c4v1_, c5v1_, c6v1_, c7v1_, c8v1_, c9v1_, c10v1_, c11v1_, c12v1_, c13v1_, c14v1_, c15v1_, c16v1_, c17v1_, hi.2.1, hi.2.2.1, hi.2.2.2.1, hi.2.2.2.2.1, hi.2.2.2.2.2.1, hi.2.2.2.2.2.2.1, hi.2.2.2.2.2.2.2.1, hi.2.2.2.2.2.2.2.2.1, hi.2.2.2.2.2.2.2.2.2.1]
    have q4_ : M2_.1 100 0 = M2_.1 124 37 := by simp only [c0v2_, c1v2_, c2v2_, c3v2_, c4v2_, c5v2_, c6v2_, c7v2_, c8v2_, c9v2_, c10v2_, c11v2_, c12v2_, c13v2_, c14v2_, c15v2_, c16v2_, c17v2_, c0v1_, c1v1_, c2v1_, c3v1_, c4v1_, c5v1_, c6v1_, c7v1_, c8v1_, c9v1_, c10v1_, c11v1_, c12v1_, c13v1_, c14v1_, c15v1_, c16v1_, c17v1_, hi.2.1, hi.2.2.1, hi.2.2.2.1, hi.2.2.2.2.1, hi.2.2.2.2.2.1, hi.2.2.2.2.2.2.1, hi.2.2.2.2.2.2.2.1, hi.2.2.2.2.2.2.2.2.1, hi.2.2.2.2.2.2.2.2.2.1]
    have q5_ : M2_.1 102 0 = M2_.1 124 40 := by simp only [c0v2_, c1v2_, c2v2_, c3v2_, c4v2_, c5v2_, c6v2_, c7v2_, c8v2_, c9v2_, c10v2_, c11v2_, c12v2_, c13v2_, c14v2_, c15v2_, c16v2_, c17v2_, c0v1_, c1v1_, c2v1_, c3v1_, c4v1_, c5v1_, c6v1_, c7v1_, c8v1_, c9v1_, c10v1_, c11v1_, c12v1_, c13v1_, c14v1_, c15v1_, c16v1_, c17v1_, hi.2.1, hi.2.2.1, hi.2.2.2.1, hi.2.2.2.2.1, hi.2.2.2.2.2.1, hi.2.2.2.2.2.2.1, hi.2.2.2.2.2.2.2.1, hi.2.2.2.2.2.2.2.2.1, hi.2.2.2.2.2.2.2.2.2.1]
    have q6_ : M2_.1 103 0 = M2_.1 124 56 := by simp only [c0v2_, c1v2_, c2v2_, c3v2_, c4v2_, c5v2_, c6v2_, c7v2_, c8v2_, c9v2_, c10v2_, c11v2_, c12v2_, c13v2_, c14v2_, c15v2_, c16v2_, c17v2_, c0v1_, c1v1_, c2v1_, c3v1_, c4v1_, c5v1_, c6v1_, c7v1_, c8v1_, c9v1_, c10v1_, c11v1_, c12v1_, c13v1_, c14v1_, c15v1_, c16v1_, c17v1_, hi.2.1, hi.2.2.1, hi.2.2.2.1, hi.2.2.2.2.1, hi.2.2.2.2.2.1, hi.2.2.2.2.2.2.1, hi.2.2.2.2.2.2.2.1, hi.2.2.2.2.2.2.2.2.1, hi.2.2.2.2.2.2.2.2.2.1]
    have q7_ : M2_.1 104 0 = M2_.1 124 43 := by simp only [c0v2_, c1v2_, c2v2_, c3v2_, c4v2_, c5v2_, c6v2_, c7v2_, c8v2_, c9v2_, c10v2_, c11v2_, c12v2_, c13v2_, c14v2_, c15v2_, c16v2_, c17v2_, c0v1_, c1v1_, c2v1_, c3v1_, c4v1_, c5v1_, c6v1_, c7v1_, c8v1_, c9v1_, c10v1_, c11v1_, c12v1_, c13v1_, c14v1_, c15v1_, c16v1_, c17v1_, hi.2.1, hi.2.2.1, hi.2.2.2.1, hi.2.2.2.2.1, hi.2.2.2.2.2.1, hi.2.2.2.2.2.2.1, hi.2.2.2.2.2.2.2.1, hi.2.2.2.2.2.2.2.2.1, hi.2.2.2.2.2.2.2.2.2.1]
    have q8_ : M2_.1 105 0 = M2_.1 124 57 := by simp only [c0v2_, c1v2_, c2v2_, c3v2_, c4v2_, c5v2_, c6v2_, c7v2_, c8v2_, c9v2_, c10v2_, c11v2_, c12v2_, c13v2_, c14v2_, c15v2_, c16v2_, c17v2_, c0v1_, c1v1_, c2v1_, c3v1_, c4v1_, c5v1_, c6v1_, c7v1_, c8v1_, c9v1_, c10v1_, c11v1_, c12v1_, c13v1_, c14v1_, c15v1_, c16v1_, c17v1_, hi.2.1, hi.2.2.1, hi.2.2.2.1, hi.2.2.2.2.1, hi.2.2.2.2.2.1, hi.2.2.2.2.2.2.1, hi.2.2.2.2.2.2.2.1, hi.2.2.2.2.2.2.2.2.1, hi.2.2.2.2.2.2.2.2.2.1]
    exact ⟨q0_, q1_, q2_, q3_, q4_, q5_, q6_, q7_, q8_, zP1_k hi.2.2.2.2.2.2.2.2.2.2.1 (c0v2_.trans c0v1_) (zKc_t K1v1_ K1v2_) (zKm_t K3v1_ K3v2_), zP2_k hi.2.2.2.2.2.2.2.2.2.2.2.1 (c2v2_.trans c2v1_) (zKc_t K2v1_ K2v2_) (zKm_t K4v1_ K4v2_), zPT_k hi.2.2.2.2.2.2.2.2.2.2.2.2.1 T9v1_ T10v1_ T9v2_ T10v2_, zRr_k hi.2.2.2.2.2.2.2.2.2.2.2.2.2.1 (c8v2_.trans c8v1_) G1v1_ G3v1_ G1v2_ G3v2_, zRr_k hi.2.2.2.2.2.2.2.2.2.2.2.2.2.2.1 (c6v2_.trans c6v1_) G2v1_ G4v1_ G2v2_ G4v2_, zPH_k hi.2.2.2.2.2.2.2.2.2.2.2.2.2.2.2.1 A9v1_ A0v1_ A9v2_ A0v2_, zVe_s hi.2.2.2.2.2.2.2.2.2.2.2.2.2.2.2.2.1 (c0v2_.trans c0v1_) VSv1_ WSv1_ VSv2_ WSv2_, zVe_k hi.2.2.2.2.2.2.2.2.2.2.2.2.2.2.2.2.2.1 (c2v2_.trans c2v1_) VKv1_ WKv1_ VKv2_ WKv2_, zHW_d hi.1.1 hi.2.2.2.2.2.2.2.2.2.2.2.2.2.2.2.2.2.2 HBv1_ HDv1_ HBv2_ HDv2_⟩
  refine zr_pop C dL_law_454 rfl ?_
  refine zr_goto (tgt := 1337) C dL_law_455 (by decide) ?_
  exact kk M2_ ⟨iv2_, rv2_⟩
set_option maxRecDepth 10000 in
theorem zl_case_6 (htab : pvTab) {p : Program} {l : Launch} {e : Env} {s : State} {m : MethodId} {below : List Frame} {meth : Method} {c : Code} {b L : Nat} {xs : Nat → Int32} {D : va_G} {y : Nat → ClassId} {ad : Nat → Nat} {ls : Array Slot} {i : Int32} {Q : State → Prop} {M : pvM} (C : zLc p s m c b L xs D y ad ls i) (hi : zIR M) (kk : ∀ M1, zIR M1 → zLW p l e s m below meth c b D y ad ls Q 1337 [] M1) : zLW p l e s m below meth c b D y ad ls Q 458 [] M := by
  refine zr_x C dL_law_458 ?_
  refine zr_arg 1 C dL_law_459 dL_law_460 dL_law_461 dL_law_462 dL_law_463 (by decide) (by decide) ?_
  refine zr_call htab (j := 173) (n := 1) (q := 0) (as := [pvI (xs (i + 1).toNatClampNeg)]) (rest := []) C rfl rfl rfl rfl (lw_X9_feed M hi.1 (xs (i + 1).toNatClampNeg)) (zgV zm_449 zm_450 zm_451 zm_2 zm_452) (by decide +kernel) rfl rfl rfl dL_law_464 rfl rfl (fun r M1_ h1_ => ?_)
  obtain ⟨⟨v1_, rfl⟩, iv1_, c0v1_, c1v1_, c2v1_, c3v1_, c4v1_, c5v1_, c6v1_, c7v1_, c8v1_, c9v1_, c10v1_, c11v1_, c12v1_, c13v1_, c14v1_, c15v1_, c16v1_, c17v1_, K1v1_, K2v1_, K3v1_, K4v1_, T9v1_, T10v1_, G1v1_, G2v1_, G3v1_, G4v1_, A9v1_, A0v1_, VSv1_, VKv1_, WSv1_, WKv1_, HBv1_, HDv1_⟩ := h1_
  refine zr_pop C dL_law_467 rfl ?_
  refine zr_m C dL_law_468 ?_
  refine zr_arg 1 C dL_law_469 dL_law_470 dL_law_471 dL_law_472 dL_law_473 (by decide) (by decide) ?_
  refine zr_call htab (j := 20) (n := 1) (q := 124) (as := [pvI (xs (i + 1).toNatClampNeg)]) (rest := []) C rfl rfl rfl rfl (lw_X10_feed M1_ iv1_ (xs (i + 1).toNatClampNeg)) (zgV zm_455 zm_456 zm_457 zm_5 zm_458) (by decide +kernel) rfl rfl rfl dL_law_474 rfl rfl (fun r M2_ h2_ => ?_)
  obtain ⟨⟨v2_, rfl⟩, iv2_, c0v2_, c1v2_, c2v2_, c3v2_, c4v2_, c5v2_, c6v2_, c7v2_, c8v2_, c9v2_, c10v2_, c11v2_, c12v2_, c13v2_, c14v2_, c15v2_, c16v2_, c17v2_, K1v2_, K2v2_, K3v2_, K4v2_, T9v2_, T10v2_, G1v2_, G2v2_, G3v2_, G4v2_, A9v2_, A0v2_, VSv2_, VKv2_, WSv2_, WKv2_, HBv2_, HDv2_⟩ := h2_
  have rv2_ : zRl M2_ := by
    have q0_ : M2_.1 8 1 = M2_.1 124 0 := by simp only [c0v2_, c1v2_, c2v2_, c3v2_, c4v2_, c5v2_, c6v2_, c7v2_, c8v2_, c9v2_, c10v2_, c11v2_, c12v2_, c13v2_, c14v2_, c15v2_, c16v2_, c17v2_, c0v1_, c1v1_, c2v1_, c3v1_, c4v1_, c5v1_, c6v1_, c7v1_, c8v1_, c9v1_, c10v1_, c11v1_, c12v1_, c13v1_, c14v1_, c15v1_, c16v1_, c17v1_, hi.2.1, hi.2.2.1, hi.2.2.2.1, hi.2.2.2.2.1, hi.2.2.2.2.2.1, hi.2.2.2.2.2.2.1, hi.2.2.2.2.2.2.2.1, hi.2.2.2.2.2.2.2.2.1, hi.2.2.2.2.2.2.2.2.2.1]
    have q1_ : M2_.1 9 1 = M2_.1 124 48 := by simp only [c0v2_, c1v2_, c2v2_, c3v2_, c4v2_, c5v2_, c6v2_, c7v2_, c8v2_, c9v2_, c10v2_, c11v2_, c12v2_, c13v2_, c14v2_, c15v2_, c16v2_, c17v2_, c0v1_, c1v1_, c2v1_, c3v1_, c4v1_, c5v1_, c6v1_, c7v1_, c8v1_, c9v1_, c10v1_, c11v1_, c12v1_, c13v1_, c14v1_, c15v1_, c16v1_, c17v1_, hi.2.1, hi.2.2.1, hi.2.2.2.1, hi.2.2.2.2.1, hi.2.2.2.2.2.1, hi.2.2.2.2.2.2.1, hi.2.2.2.2.2.2.2.1, hi.2.2.2.2.2.2.2.2.1, hi.2.2.2.2.2.2.2.2.2.1]
    have q2_ : M2_.1 0 5 = M2_.1 124 46 := by simp only [c0v2_, c1v2_, c2v2_, c3v2_, c4v2_, c5v2_, c6v2_, c7v2_, c8v2_, c9v2_, c10v2_, c11v2_, c12v2_, c13v2_, c14v2_, c15v2_, c16v2_, c17v2_, c0v1_, c1v1_, c2v1_, c3v1_, c4v1_, c5v1_, c6v1_, c7v1_, c8v1_, c9v1_, c10v1_, c11v1_, c12v1_, c13v1_, c14v1_, c15v1_, c16v1_, c17v1_, hi.2.1, hi.2.2.1, hi.2.2.2.1, hi.2.2.2.2.1, hi.2.2.2.2.2.1, hi.2.2.2.2.2.2.1, hi.2.2.2.2.2.2.2.1, hi.2.2.2.2.2.2.2.2.1, hi.2.2.2.2.2.2.2.2.2.1]
    have q3_ : M2_.1 101 0 = M2_.1 124 55 := by simp only [c0v2_, c1v2_, c2v2_, c3v2_, c4v2_, c5v2_, c6v2_, c7v2_, c8v2_, c9v2_, c10v2_, c11v2_, c12v2_, c13v2_, c14v2_, c15v2_, c16v2_, c17v2_, c0v1_, c1v1_, c2v1_, c3v1_, c4v1_, c5v1_, c6v1_, c7v1_, c8v1_, c9v1_, c10v1_, c11v1_, c12v1_, c13v1_, c14v1_, c15v1_, c16v1_, c17v1_, hi.2.1, hi.2.2.1, hi.2.2.2.1, hi.2.2.2.2.1, hi.2.2.2.2.2.1, hi.2.2.2.2.2.2.1, hi.2.2.2.2.2.2.2.1, hi.2.2.2.2.2.2.2.2.1, hi.2.2.2.2.2.2.2.2.2.1]
    have q4_ : M2_.1 100 0 = M2_.1 124 37 := by simp only [c0v2_, c1v2_, c2v2_, c3v2_, c4v2_, c5v2_, c6v2_, c7v2_, c8v2_, c9v2_, c10v2_, c11v2_, c12v2_, c13v2_, c14v2_, c15v2_, c16v2_, c17v2_, c0v1_, c1v1_, c2v1_, c3v1_, c4v1_, c5v1_, c6v1_, c7v1_, c8v1_, c9v1_, c10v1_, c11v1_, c12v1_, c13v1_, c14v1_, c15v1_, c16v1_, c17v1_, hi.2.1, hi.2.2.1, hi.2.2.2.1, hi.2.2.2.2.1, hi.2.2.2.2.2.1, hi.2.2.2.2.2.2.1, hi.2.2.2.2.2.2.2.1, hi.2.2.2.2.2.2.2.2.1, hi.2.2.2.2.2.2.2.2.2.1]
    have q5_ : M2_.1 102 0 = M2_.1 124 40 := by simp only [c0v2_, c1v2_, c2v2_, c3v2_, c4v2_, c5v2_, c6v2_, c7v2_, c8v2_, c9v2_, c10v2_, c11v2_, c12v2_, c13v2_, c14v2_, c15v2_, c16v2_, c17v2_, c0v1_, c1v1_, c2v1_, c3v1_, c4v1_, c5v1_, c6v1_, c7v1_, c8v1_, c9v1_, c10v1_, c11v1_, c12v1_, c13v1_, c14v1_, c15v1_, c16v1_, c17v1_, hi.2.1, hi.2.2.1, hi.2.2.2.1, hi.2.2.2.2.1, hi.2.2.2.2.2.1, hi.2.2.2.2.2.2.1, hi.2.2.2.2.2.2.2.1, hi.2.2.2.2.2.2.2.2.1, hi.2.2.2.2.2.2.2.2.2.1]
    have q6_ : M2_.1 103 0 = M2_.1 124 56 := by simp only [c0v2_, c1v2_, c2v2_, c3v2_, c4v2_, c5v2_, c6v2_, c7v2_, c8v2_, c9v2_, c10v2_, c11v2_, c12v2_, c13v2_, c14v2_, c15v2_, c16v2_, c17v2_, c0v1_, c1v1_, c2v1_, c3v1_, c4v1_, c5v1_, c6v1_, c7v1_, c8v1_, c9v1_, c10v1_, c11v1_, c12v1_, c13v1_, c14v1_, c15v1_, c16v1_, c17v1_, hi.2.1, hi.2.2.1, hi.2.2.2.1, hi.2.2.2.2.1, hi.2.2.2.2.2.1, hi.2.2.2.2.2.2.1, hi.2.2.2.2.2.2.2.1, hi.2.2.2.2.2.2.2.2.1, hi.2.2.2.2.2.2.2.2.2.1]
    have q7_ : M2_.1 104 0 = M2_.1 124 43 := by simp only [c0v2_, c1v2_, c2v2_, c3v2_, c4v2_, c5v2_, c6v2_, c7v2_, c8v2_, c9v2_, c10v2_, c11v2_, c12v2_, c13v2_, c14v2_, c15v2_, c16v2_, c17v2_, c0v1_, c1v1_, c2v1_, c3v1_, c4v1_, c5v1_, c6v1_, c7v1_, c8v1_, c9v1_, c10v1_, c11v1_, c12v1_, c13v1_, c14v1_, c15v1_, c16v1_, c17v1_, hi.2.1, hi.2.2.1, hi.2.2.2.1, hi.2.2.2.2.1, hi.2.2.2.2.2.1, hi.2.2.2.2.2.2.1, hi.2.2.2.2.2.2.2.1, hi.2.2.2.2.2.2.2.2.1, hi.2.2.2.2.2.2.2.2.2.1]
    have q8_ : M2_.1 105 0 = M2_.1 124 57 := by simp only [c0v2_, c1v2_, c2v2_, c3v2_, c4v2_, c5v2_, c6v2_, c7v2_, c8v2_, c9v2_, c10v2_, c11v2_, c12v2_, c13v2_, c14v2_, c15v2_, c16v2_, c17v2_, c0v1_, c1v1_, c2v1_, c3v1_, c4v1_, c5v1_, c6v1_, c7v1_, c8v1_, c9v1_, c10v1_, c11v1_, c12v1_, c13v1_, c14v1_, c15v1_, c16v1_, c17v1_, hi.2.1, hi.2.2.1, hi.2.2.2.1, hi.2.2.2.2.1, hi.2.2.2.2.2.1, hi.2.2.2.2.2.2.1, hi.2.2.2.2.2.2.2.1, hi.2.2.2.2.2.2.2.2.1, hi.2.2.2.2.2.2.2.2.2.1]
    exact ⟨q0_, q1_, q2_, q3_, q4_, q5_, q6_, q7_, q8_, zP1_k hi.2.2.2.2.2.2.2.2.2.2.1 (c0v2_.trans c0v1_) (zKc_t K1v1_ K1v2_) (zKm_t K3v1_ K3v2_), zP2_k hi.2.2.2.2.2.2.2.2.2.2.2.1 (c2v2_.trans c2v1_) (zKc_t K2v1_ K2v2_) (zKm_t K4v1_ K4v2_), zPT_k hi.2.2.2.2.2.2.2.2.2.2.2.2.1 T9v1_ T10v1_ T9v2_ T10v2_, zRr_k hi.2.2.2.2.2.2.2.2.2.2.2.2.2.1 (c8v2_.trans c8v1_) G1v1_ G3v1_ G1v2_ G3v2_, zRr_k hi.2.2.2.2.2.2.2.2.2.2.2.2.2.2.1 (c6v2_.trans c6v1_) G2v1_ G4v1_ G2v2_ G4v2_, (zPH_f hi.2.2.2.2.2.2.2.2.2.2.2.2.2.2.2.1 (pvok_r hi.1.1 6 1 rfl).1 A9v1_ A0v1_ A0v2_ A9v2_).2, zVe_k hi.2.2.2.2.2.2.2.2.2.2.2.2.2.2.2.2.1 (c0v2_.trans c0v1_) VSv1_ WSv1_ VSv2_ WSv2_, zVe_k hi.2.2.2.2.2.2.2.2.2.2.2.2.2.2.2.2.2.1 (c2v2_.trans c2v1_) VKv1_ WKv1_ VKv2_ WKv2_, zHW_d hi.1.1 hi.2.2.2.2.2.2.2.2.2.2.2.2.2.2.2.2.2.2 HBv1_ HDv1_ HBv2_ HDv2_⟩
  refine zr_pop C dL_law_477 rfl ?_
  refine zr_goto (tgt := 1337) C dL_law_478 (by decide) ?_
  exact kk M2_ ⟨iv2_, rv2_⟩
set_option maxRecDepth 10000 in
theorem zl_case_7 (htab : pvTab) {p : Program} {l : Launch} {e : Env} {s : State} {m : MethodId} {below : List Frame} {meth : Method} {c : Code} {b L : Nat} {xs : Nat → Int32} {D : va_G} {y : Nat → ClassId} {ad : Nat → Nat} {ls : Array Slot} {i : Int32} {Q : State → Prop} {M : pvM} (C : zLc p s m c b L xs D y ad ls i) (hi : zIR M) (kk : ∀ M1, zIR M1 → zLW p l e s m below meth c b D y ad ls Q 1337 [] M1) : zLW p l e s m below meth c b D y ad ls Q 481 [] M := by
  refine zr_x C dL_law_481 ?_
  refine zr_call htab (j := 177) (n := 0) (q := 0) (as := []) (rest := []) C rfl rfl rfl rfl (lw_X9_house M hi.1) (zgV zm_459 zm_460 zm_461 zm_2 zm_462) (by decide +kernel) rfl rfl rfl dL_law_482 rfl rfl (fun r M1_ h1_ => ?_)
  obtain ⟨⟨v1_, rfl⟩, iv1_, c0v1_, c1v1_, c2v1_, c3v1_, c4v1_, c5v1_, c6v1_, c7v1_, c8v1_, c9v1_, c10v1_, c11v1_, c12v1_, c13v1_, c14v1_, c15v1_, c16v1_, c17v1_, K1v1_, K2v1_, K3v1_, K4v1_, T9v1_, T10v1_, G1v1_, G2v1_, G3v1_, G4v1_, A9v1_, A0v1_, VSv1_, VKv1_, WSv1_, WKv1_, HBv1_, HDv1_⟩ := h1_
  refine zr_pop C dL_law_485 rfl ?_
  refine zr_m C dL_law_486 ?_
  refine zr_call htab (j := 34) (n := 0) (q := 124) (as := []) (rest := []) C rfl rfl rfl rfl (lw_X10_house M1_ iv1_) (zgV zm_639 zm_640 zm_641 zm_5 zm_642) (by decide +kernel) rfl rfl rfl dL_law_487 rfl rfl (fun r M2_ h2_ => ?_)
  obtain ⟨⟨v2_, rfl⟩, iv2_, c0v2_, c1v2_, c2v2_, c3v2_, c4v2_, c5v2_, c6v2_, c7v2_, c8v2_, c9v2_, c10v2_, c11v2_, c12v2_, c13v2_, c14v2_, c15v2_, c16v2_, c17v2_, K1v2_, K2v2_, K3v2_, K4v2_, T9v2_, T10v2_, G1v2_, G2v2_, G3v2_, G4v2_, A9v2_, A0v2_, VSv2_, VKv2_, WSv2_, WKv2_, HBv2_, HDv2_⟩ := h2_
  have rv2_ : zRl M2_ := by
    have q0_ : M2_.1 8 1 = M2_.1 124 0 := by simp only [c0v2_, c1v2_, c2v2_, c3v2_, c4v2_, c5v2_, c6v2_, c7v2_, c8v2_, c9v2_, c10v2_, c11v2_, c12v2_, c13v2_, c14v2_, c15v2_, c16v2_, c17v2_, c0v1_, c1v1_, c2v1_, c3v1_, c4v1_, c5v1_, c6v1_, c7v1_, c8v1_, c9v1_, c10v1_, c11v1_, c12v1_, c13v1_, c14v1_, c15v1_, c16v1_, c17v1_, hi.2.1, hi.2.2.1, hi.2.2.2.1, hi.2.2.2.2.1, hi.2.2.2.2.2.1, hi.2.2.2.2.2.2.1, hi.2.2.2.2.2.2.2.1, hi.2.2.2.2.2.2.2.2.1, hi.2.2.2.2.2.2.2.2.2.1]
    have q1_ : M2_.1 9 1 = M2_.1 124 48 := by simp only [c0v2_, c1v2_, c2v2_, c3v2_, c4v2_, c5v2_, c6v2_, c7v2_, c8v2_, c9v2_, c10v2_, c11v2_, c12v2_, c13v2_, c14v2_, c15v2_, c16v2_, c17v2_, c0v1_, c1v1_, c2v1_, c3v1_, c4v1_, c5v1_, c6v1_, c7v1_, c8v1_, c9v1_, c10v1_, c11v1_, c12v1_, c13v1_, c14v1_, c15v1_, c16v1_, c17v1_, hi.2.1, hi.2.2.1, hi.2.2.2.1, hi.2.2.2.2.1, hi.2.2.2.2.2.1, hi.2.2.2.2.2.2.1, hi.2.2.2.2.2.2.2.1, hi.2.2.2.2.2.2.2.2.1, hi.2.2.2.2.2.2.2.2.2.1]
    have q2_ : M2_.1 0 5 = M2_.1 124 46 := by simp only [c0v2_, c1v2_, c2v2_, c3v2_, c4v2_, c5v2_, c6v2_, c7v2_, c8v2_, c9v2_, c10v2_, c11v2_, c12v2_, c13v2_, c14v2_, c15v2_, c16v2_, c17v2_, c0v1_, c1v1_, c2v1_, c3v1_, c4v1_, c5v1_, c6v1_, c7v1_, c8v1_, c9v1_, c10v1_, c11v1_, c12v1_, c13v1_, c14v1_, c15v1_, c16v1_, c17v1_, hi.2.1, hi.2.2.1, hi.2.2.2.1, hi.2.2.2.2.1, hi.2.2.2.2.2.1, hi.2.2.2.2.2.2.1, hi.2.2.2.2.2.2.2.1, hi.2.2.2.2.2.2.2.2.1, hi.2.2.2.2.2.2.2.2.2.1]
    have q3_ : M2_.1 101 0 = M2_.1 124 55 := by simp only [c0v2_, c1v2_, c2v2_, c3v2_, c4v2_, c5v2_, c6v2_, c7v2_, c8v2_, c9v2_, c10v2_, c11v2_, c12v2_, c13v2_, c14v2_, c15v2_, c16v2_, c17v2_, c0v1_, c1v1_, c2v1_, c3v1_, c4v1_, c5v1_, c6v1_, c7v1_, c8v1_, c9v1_, c10v1_, c11v1_, c12v1_, c13v1_, c14v1_, c15v1_, c16v1_, c17v1_, hi.2.1, hi.2.2.1, hi.2.2.2.1, hi.2.2.2.2.1, hi.2.2.2.2.2.1, hi.2.2.2.2.2.2.1, hi.2.2.2.2.2.2.2.1, hi.2.2.2.2.2.2.2.2.1, hi.2.2.2.2.2.2.2.2.2.1]
    have q4_ : M2_.1 100 0 = M2_.1 124 37 := by simp only [c0v2_, c1v2_, c2v2_, c3v2_, c4v2_, c5v2_, c6v2_, c7v2_, c8v2_, c9v2_, c10v2_, c11v2_, c12v2_, c13v2_, c14v2_, c15v2_, c16v2_, c17v2_, c0v1_, c1v1_, c2v1_, c3v1_, c4v1_, c5v1_, c6v1_, c7v1_, c8v1_, c9v1_, c10v1_, c11v1_, c12v1_, c13v1_, c14v1_, c15v1_, c16v1_, c17v1_, hi.2.1, hi.2.2.1, hi.2.2.2.1, hi.2.2.2.2.1, hi.2.2.2.2.2.1, hi.2.2.2.2.2.2.1, hi.2.2.2.2.2.2.2.1, hi.2.2.2.2.2.2.2.2.1, hi.2.2.2.2.2.2.2.2.2.1]
    have q5_ : M2_.1 102 0 = M2_.1 124 40 := by simp only [c0v2_, c1v2_, c2v2_, c3v2_, c4v2_, c5v2_, c6v2_, c7v2_, c8v2_, c9v2_, c10v2_, c11v2_, c12v2_, c13v2_, c14v2_, c15v2_, c16v2_, c17v2_, c0v1_, c1v1_, c2v1_, c3v1_, c4v1_, c5v1_, c6v1_, c7v1_, c8v1_, c9v1_, c10v1_, c11v1_, c12v1_, c13v1_, c14v1_, c15v1_, c16v1_, c17v1_, hi.2.1, hi.2.2.1, hi.2.2.2.1, hi.2.2.2.2.1, hi.2.2.2.2.2.1, hi.2.2.2.2.2.2.1, hi.2.2.2.2.2.2.2.1, hi.2.2.2.2.2.2.2.2.1, hi.2.2.2.2.2.2.2.2.2.1]
    have q6_ : M2_.1 103 0 = M2_.1 124 56 := by simp only [c0v2_, c1v2_, c2v2_, c3v2_, c4v2_, c5v2_, c6v2_, c7v2_, c8v2_, c9v2_, c10v2_, c11v2_, c12v2_, c13v2_, c14v2_, c15v2_, c16v2_, c17v2_, c0v1_, c1v1_, c2v1_, c3v1_, c4v1_, c5v1_, c6v1_, c7v1_, c8v1_, c9v1_, c10v1_, c11v1_, c12v1_, c13v1_, c14v1_, c15v1_, c16v1_, c17v1_, hi.2.1, hi.2.2.1, hi.2.2.2.1, hi.2.2.2.2.1, hi.2.2.2.2.2.1, hi.2.2.2.2.2.2.1, hi.2.2.2.2.2.2.2.1, hi.2.2.2.2.2.2.2.2.1, hi.2.2.2.2.2.2.2.2.2.1]
    have q7_ : M2_.1 104 0 = M2_.1 124 43 := by simp only [c0v2_, c1v2_, c2v2_, c3v2_, c4v2_, c5v2_, c6v2_, c7v2_, c8v2_, c9v2_, c10v2_, c11v2_, c12v2_, c13v2_, c14v2_, c15v2_, c16v2_, c17v2_, c0v1_, c1v1_, c2v1_, c3v1_, c4v1_, c5v1_, c6v1_, c7v1_, c8v1_, c9v1_, c10v1_, c11v1_, c12v1_, c13v1_, c14v1_, c15v1_, c16v1_, c17v1_, hi.2.1, hi.2.2.1, hi.2.2.2.1, hi.2.2.2.2.1, hi.2.2.2.2.2.1, hi.2.2.2.2.2.2.1, hi.2.2.2.2.2.2.2.1, hi.2.2.2.2.2.2.2.2.1, hi.2.2.2.2.2.2.2.2.2.1]
    have q8_ : M2_.1 105 0 = M2_.1 124 57 := by simp only [c0v2_, c1v2_, c2v2_, c3v2_, c4v2_, c5v2_, c6v2_, c7v2_, c8v2_, c9v2_, c10v2_, c11v2_, c12v2_, c13v2_, c14v2_, c15v2_, c16v2_, c17v2_, c0v1_, c1v1_, c2v1_, c3v1_, c4v1_, c5v1_, c6v1_, c7v1_, c8v1_, c9v1_, c10v1_, c11v1_, c12v1_, c13v1_, c14v1_, c15v1_, c16v1_, c17v1_, hi.2.1, hi.2.2.1, hi.2.2.2.1, hi.2.2.2.2.1, hi.2.2.2.2.2.1, hi.2.2.2.2.2.2.1, hi.2.2.2.2.2.2.2.1, hi.2.2.2.2.2.2.2.2.1, hi.2.2.2.2.2.2.2.2.2.1]
    exact ⟨q0_, q1_, q2_, q3_, q4_, q5_, q6_, q7_, q8_, zP1_k hi.2.2.2.2.2.2.2.2.2.2.1 (c0v2_.trans c0v1_) (zKc_t K1v1_ K1v2_) (zKm_t K3v1_ K3v2_), zP2_k hi.2.2.2.2.2.2.2.2.2.2.2.1 (c2v2_.trans c2v1_) (zKc_t K2v1_ K2v2_) (zKm_t K4v1_ K4v2_), zPT_k hi.2.2.2.2.2.2.2.2.2.2.2.2.1 T9v1_ T10v1_ T9v2_ T10v2_, zRr_k hi.2.2.2.2.2.2.2.2.2.2.2.2.2.1 (c8v2_.trans c8v1_) G1v1_ G3v1_ G1v2_ G3v2_, zRr_k hi.2.2.2.2.2.2.2.2.2.2.2.2.2.2.1 (c6v2_.trans c6v1_) G2v1_ G4v1_ G2v2_ G4v2_, (zPH_h hi.2.2.2.2.2.2.2.2.2.2.2.2.2.2.2.1 A9v1_ A0v1_ A0v2_ A9v2_).2, zVe_k hi.2.2.2.2.2.2.2.2.2.2.2.2.2.2.2.2.1 (c0v2_.trans c0v1_) VSv1_ WSv1_ VSv2_ WSv2_, zVe_k hi.2.2.2.2.2.2.2.2.2.2.2.2.2.2.2.2.2.1 (c2v2_.trans c2v1_) VKv1_ WKv1_ VKv2_ WKv2_, zHW_h hi.2.2.2.2.2.2.2.2.2.2.2.2.2.2.2.2.2.2 hi.2.2.2.2.2.2.2.2.2.2.2.2.2.2.2.1 (pvok_r hi.1.1 0 1 (lo := 0) (hi := 6) rfl).1 (fun i => (pvok_r hi.1.1 133 i (lo := 0) (hi := 10) rfl).2) HBv1_.1 HBv1_.2 HDv1_ A0v1_ HDv2_.1 HDv2_.2 HBv2_⟩
  refine zr_pop C dL_law_490 rfl ?_
  refine zr_goto (tgt := 1337) C dL_law_491 (by decide) ?_
  exact kk M2_ ⟨iv2_, rv2_⟩
set_option maxRecDepth 10000 in
theorem zl_case_8 (htab : pvTab) {p : Program} {l : Launch} {e : Env} {s : State} {m : MethodId} {below : List Frame} {meth : Method} {c : Code} {b L : Nat} {xs : Nat → Int32} {D : va_G} {y : Nat → ClassId} {ad : Nat → Nat} {ls : Array Slot} {i : Int32} {Q : State → Prop} {M : pvM} (C : zLc p s m c b L xs D y ad ls i) (hi : zIR M) (kk : ∀ M1, zIR M1 → zLW p l e s m below meth c b D y ad ls Q 1337 [] M1) : zLW p l e s m below meth c b D y ad ls Q 494 [] M := by
  refine zr_x C dL_law_494 ?_
  refine zr_arg 1 C dL_law_495 dL_law_496 dL_law_497 dL_law_498 dL_law_499 (by decide) (by decide) ?_
  refine zr_call htab (j := 205) (n := 1) (q := 0) (as := [pvI (xs (i + 1).toNatClampNeg)]) (rest := []) C rfl rfl rfl rfl (lw_X9_told M hi.1 (xs (i + 1).toNatClampNeg)) (zgV zm_699 zm_700 zm_701 zm_2 zm_702) (by decide +kernel) rfl rfl rfl dL_law_500 rfl rfl (fun r M1_ h1_ => ?_)
  obtain ⟨⟨v1_, rfl⟩, iv1_, c0v1_, c1v1_, c2v1_, c3v1_, c4v1_, c5v1_, c6v1_, c7v1_, c8v1_, c9v1_, c10v1_, c11v1_, c12v1_, c13v1_, c14v1_, c15v1_, c16v1_, c17v1_, K1v1_, K2v1_, K3v1_, K4v1_, T9v1_, T10v1_, G1v1_, G2v1_, G3v1_, G4v1_, A9v1_, A0v1_, VSv1_, VKv1_, WSv1_, WKv1_, HBv1_, HDv1_⟩ := h1_
  refine zr_pop C dL_law_503 rfl ?_
  refine zr_m C dL_law_504 ?_
  refine zr_arg 1 C dL_law_505 dL_law_506 dL_law_507 dL_law_508 dL_law_509 (by decide) (by decide) ?_
  refine zr_call htab (j := 91) (n := 1) (q := 124) (as := [pvI (xs (i + 1).toNatClampNeg)]) (rest := []) C rfl rfl rfl rfl (lw_X10_told M1_ iv1_ (xs (i + 1).toNatClampNeg)) (zgV zm_710 zm_711 zm_712 zm_5 zm_713) (by decide +kernel) rfl rfl rfl dL_law_510 rfl rfl (fun r M2_ h2_ => ?_)
  obtain ⟨⟨v2_, rfl⟩, iv2_, c0v2_, c1v2_, c2v2_, c3v2_, c4v2_, c5v2_, c6v2_, c7v2_, c8v2_, c9v2_, c10v2_, c11v2_, c12v2_, c13v2_, c14v2_, c15v2_, c16v2_, c17v2_, K1v2_, K2v2_, K3v2_, K4v2_, T9v2_, T10v2_, G1v2_, G2v2_, G3v2_, G4v2_, A9v2_, A0v2_, VSv2_, VKv2_, WSv2_, WKv2_, HBv2_, HDv2_⟩ := h2_
  have rv2_ : zRl M2_ := by
    have q0_ : M2_.1 8 1 = M2_.1 124 0 := by simp only [c0v2_, c1v2_, c2v2_, c3v2_, c4v2_, c5v2_, c6v2_, c7v2_, c8v2_, c9v2_, c10v2_, c11v2_, c12v2_, c13v2_, c14v2_, c15v2_, c16v2_, c17v2_, c0v1_, c1v1_, c2v1_, c3v1_, c4v1_, c5v1_, c6v1_, c7v1_, c8v1_, c9v1_, c10v1_, c11v1_, c12v1_, c13v1_, c14v1_, c15v1_, c16v1_, c17v1_, hi.2.1, hi.2.2.1, hi.2.2.2.1, hi.2.2.2.2.1, hi.2.2.2.2.2.1, hi.2.2.2.2.2.2.1, hi.2.2.2.2.2.2.2.1, hi.2.2.2.2.2.2.2.2.1, hi.2.2.2.2.2.2.2.2.2.1]
    have q1_ : M2_.1 9 1 = M2_.1 124 48 := by simp only [c0v2_, c1v2_, c2v2_, c3v2_, c4v2_, c5v2_, c6v2_, c7v2_, c8v2_, c9v2_, c10v2_, c11v2_, c12v2_, c13v2_, c14v2_, c15v2_, c16v2_, c17v2_, c0v1_, c1v1_, c2v1_, c3v1_, c4v1_, c5v1_, c6v1_, c7v1_, c8v1_, c9v1_, c10v1_, c11v1_, c12v1_, c13v1_, c14v1_, c15v1_, c16v1_, c17v1_, hi.2.1, hi.2.2.1, hi.2.2.2.1, hi.2.2.2.2.1, hi.2.2.2.2.2.1, hi.2.2.2.2.2.2.1, hi.2.2.2.2.2.2.2.1, hi.2.2.2.2.2.2.2.2.1, hi.2.2.2.2.2.2.2.2.2.1]
    have q2_ : M2_.1 0 5 = M2_.1 124 46 := by simp only [c0v2_, c1v2_, c2v2_, c3v2_, c4v2_, c5v2_, c6v2_, c7v2_, c8v2_, c9v2_, c10v2_, c11v2_, c12v2_, c13v2_, c14v2_, c15v2_, c16v2_, c17v2_, c0v1_, c1v1_, c2v1_, c3v1_, c4v1_, c5v1_, c6v1_, c7v1_, c8v1_, c9v1_, c10v1_, c11v1_, c12v1_, c13v1_, c14v1_, c15v1_, c16v1_, c17v1_, hi.2.1, hi.2.2.1, hi.2.2.2.1, hi.2.2.2.2.1, hi.2.2.2.2.2.1, hi.2.2.2.2.2.2.1, hi.2.2.2.2.2.2.2.1, hi.2.2.2.2.2.2.2.2.1, hi.2.2.2.2.2.2.2.2.2.1]
    have q3_ : M2_.1 101 0 = M2_.1 124 55 := by simp only [c0v2_, c1v2_, c2v2_, c3v2_, c4v2_, c5v2_, c6v2_, c7v2_, c8v2_, c9v2_, c10v2_, c11v2_, c12v2_, c13v2_, c14v2_, c15v2_, c16v2_, c17v2_, c0v1_, c1v1_, c2v1_, c3v1_, c4v1_, c5v1_, c6v1_, c7v1_, c8v1_, c9v1_, c10v1_, c11v1_, c12v1_, c13v1_, c14v1_, c15v1_, c16v1_, c17v1_, hi.2.1, hi.2.2.1, hi.2.2.2.1, hi.2.2.2.2.1, hi.2.2.2.2.2.1, hi.2.2.2.2.2.2.1, hi.2.2.2.2.2.2.2.1, hi.2.2.2.2.2.2.2.2.1, hi.2.2.2.2.2.2.2.2.2.1]
    have q4_ : M2_.1 100 0 = M2_.1 124 37 := by simp only [c0v2_, c1v2_, c2v2_, c3v2_, c4v2_, c5v2_, c6v2_, c7v2_, c8v2_, c9v2_, c10v2_, c11v2_, c12v2_, c13v2_, c14v2_, c15v2_, c16v2_, c17v2_, c0v1_, c1v1_, c2v1_, c3v1_, c4v1_, c5v1_, c6v1_, c7v1_, c8v1_, c9v1_, c10v1_, c11v1_, c12v1_, c13v1_, c14v1_, c15v1_, c16v1_, c17v1_, hi.2.1, hi.2.2.1, hi.2.2.2.1, hi.2.2.2.2.1, hi.2.2.2.2.2.1, hi.2.2.2.2.2.2.1, hi.2.2.2.2.2.2.2.1, hi.2.2.2.2.2.2.2.2.1, hi.2.2.2.2.2.2.2.2.2.1]
    have q5_ : M2_.1 102 0 = M2_.1 124 40 := by simp only [c0v2_, c1v2_, c2v2_, c3v2_, c4v2_, c5v2_, c6v2_, c7v2_, c8v2_, c9v2_, c10v2_, c11v2_, c12v2_, c13v2_, c14v2_, c15v2_, c16v2_, c17v2_, c0v1_, c1v1_, c2v1_, c3v1_, c4v1_, c5v1_, c6v1_, c7v1_, c8v1_, c9v1_, c10v1_, c11v1_, c12v1_, c13v1_, c14v1_, c15v1_, c16v1_, c17v1_, hi.2.1, hi.2.2.1, hi.2.2.2.1, hi.2.2.2.2.1, hi.2.2.2.2.2.1, hi.2.2.2.2.2.2.1, hi.2.2.2.2.2.2.2.1, hi.2.2.2.2.2.2.2.2.1, hi.2.2.2.2.2.2.2.2.2.1]
    have q6_ : M2_.1 103 0 = M2_.1 124 56 := by simp only [c0v2_, c1v2_, c2v2_, c3v2_, c4v2_, c5v2_, c6v2_, c7v2_, c8v2_, c9v2_, c10v2_, c11v2_, c12v2_, c13v2_, c14v2_, c15v2_, c16v2_, c17v2_, c0v1_, c1v1_, c2v1_, c3v1_, c4v1_, c5v1_, c6v1_, c7v1_, c8v1_, c9v1_, c10v1_, c11v1_, c12v1_, c13v1_, c14v1_, c15v1_, c16v1_, c17v1_, hi.2.1, hi.2.2.1, hi.2.2.2.1, hi.2.2.2.2.1, hi.2.2.2.2.2.1, hi.2.2.2.2.2.2.1, hi.2.2.2.2.2.2.2.1, hi.2.2.2.2.2.2.2.2.1, hi.2.2.2.2.2.2.2.2.2.1]
    have q7_ : M2_.1 104 0 = M2_.1 124 43 := by simp only [c0v2_, c1v2_, c2v2_, c3v2_, c4v2_, c5v2_, c6v2_, c7v2_, c8v2_, c9v2_, c10v2_, c11v2_, c12v2_, c13v2_, c14v2_, c15v2_, c16v2_, c17v2_, c0v1_, c1v1_, c2v1_, c3v1_, c4v1_, c5v1_, c6v1_, c7v1_, c8v1_, c9v1_, c10v1_, c11v1_, c12v1_, c13v1_, c14v1_, c15v1_, c16v1_, c17v1_, hi.2.1, hi.2.2.1, hi.2.2.2.1, hi.2.2.2.2.1, hi.2.2.2.2.2.1, hi.2.2.2.2.2.2.1, hi.2.2.2.2.2.2.2.1, hi.2.2.2.2.2.2.2.2.1, hi.2.2.2.2.2.2.2.2.2.1]
    have q8_ : M2_.1 105 0 = M2_.1 124 57 := by simp only [c0v2_, c1v2_, c2v2_, c3v2_, c4v2_, c5v2_, c6v2_, c7v2_, c8v2_, c9v2_, c10v2_, c11v2_, c12v2_, c13v2_, c14v2_, c15v2_, c16v2_, c17v2_, c0v1_, c1v1_, c2v1_, c3v1_, c4v1_, c5v1_, c6v1_, c7v1_, c8v1_, c9v1_, c10v1_, c11v1_, c12v1_, c13v1_, c14v1_, c15v1_, c16v1_, c17v1_, hi.2.1, hi.2.2.1, hi.2.2.2.1, hi.2.2.2.2.1, hi.2.2.2.2.2.1, hi.2.2.2.2.2.2.1, hi.2.2.2.2.2.2.2.1, hi.2.2.2.2.2.2.2.2.1, hi.2.2.2.2.2.2.2.2.2.1]
    exact ⟨q0_, q1_, q2_, q3_, q4_, q5_, q6_, q7_, q8_, zP1_k hi.2.2.2.2.2.2.2.2.2.2.1 (c0v2_.trans c0v1_) (zKc_t K1v1_ K1v2_) (zKm_t K3v1_ K3v2_), zP2_k hi.2.2.2.2.2.2.2.2.2.2.2.1 (c2v2_.trans c2v1_) (zKc_t K2v1_ K2v2_) (zKm_t K4v1_ K4v2_), zPT_k hi.2.2.2.2.2.2.2.2.2.2.2.2.1 T9v1_ T10v1_ T9v2_ T10v2_, zRr_k hi.2.2.2.2.2.2.2.2.2.2.2.2.2.1 (c8v2_.trans c8v1_) G1v1_ G3v1_ G1v2_ G3v2_, zRr_k hi.2.2.2.2.2.2.2.2.2.2.2.2.2.2.1 (c6v2_.trans c6v1_) G2v1_ G4v1_ G2v2_ G4v2_, zPH_k hi.2.2.2.2.2.2.2.2.2.2.2.2.2.2.2.1 A9v1_ A0v1_ A9v2_ A0v2_, zVe_k hi.2.2.2.2.2.2.2.2.2.2.2.2.2.2.2.2.1 (c0v2_.trans c0v1_) VSv1_ WSv1_ VSv2_ WSv2_, zVe_k hi.2.2.2.2.2.2.2.2.2.2.2.2.2.2.2.2.2.1 (c2v2_.trans c2v1_) VKv1_ WKv1_ VKv2_ WKv2_, zHW_d hi.1.1 hi.2.2.2.2.2.2.2.2.2.2.2.2.2.2.2.2.2.2 HBv1_ HDv1_ HBv2_ HDv2_⟩
  refine zr_pop C dL_law_513 rfl ?_
  refine zr_goto (tgt := 1337) C dL_law_514 (by decide) ?_
  exact kk M2_ ⟨iv2_, rv2_⟩
set_option maxRecDepth 10000 in
theorem zl_case_9 (htab : pvTab) {p : Program} {l : Launch} {e : Env} {s : State} {m : MethodId} {below : List Frame} {meth : Method} {c : Code} {b L : Nat} {xs : Nat → Int32} {D : va_G} {y : Nat → ClassId} {ad : Nat → Nat} {ls : Array Slot} {i : Int32} {Q : State → Prop} {M : pvM} (C : zLc p s m c b L xs D y ad ls i) (hi : zIR M) (kk : ∀ M1, zIR M1 → zLW p l e s m below meth c b D y ad ls Q 1337 [] M1) : zLW p l e s m below meth c b D y ad ls Q 517 [] M := by
  refine zr_x C dL_law_517 ?_
  refine zr_arg 1 C dL_law_518 dL_law_519 dL_law_520 dL_law_521 dL_law_522 (by decide) (by decide) ?_
  refine zr_call htab (j := 192) (n := 1) (q := 0) (as := [pvI (xs (i + 1).toNatClampNeg)]) (rest := []) C rfl rfl rfl rfl (lw_X9_pass M hi.1 (xs (i + 1).toNatClampNeg)) (zgV zm_718 zm_719 zm_720 zm_2 zm_721) (by decide +kernel) rfl rfl rfl dL_law_523 rfl rfl (fun r M1_ h1_ => ?_)
  obtain ⟨⟨v1_, rfl⟩, iv1_, c0v1_, c1v1_, c2v1_, c3v1_, c4v1_, c5v1_, c6v1_, c7v1_, c8v1_, c9v1_, c10v1_, c11v1_, c12v1_, c13v1_, c14v1_, c15v1_, c16v1_, c17v1_, K1v1_, K2v1_, K3v1_, K4v1_, T9v1_, T10v1_, G1v1_, G2v1_, G3v1_, G4v1_, A9v1_, A0v1_, VSv1_, VKv1_, WSv1_, WKv1_, HBv1_, HDv1_⟩ := h1_
  refine zr_pop C dL_law_526 rfl ?_
  refine zr_m C dL_law_527 ?_
  refine zr_arg 1 C dL_law_528 dL_law_529 dL_law_530 dL_law_531 dL_law_532 (by decide) (by decide) ?_
  refine zr_call htab (j := 63) (n := 1) (q := 124) (as := [pvI (xs (i + 1).toNatClampNeg)]) (rest := []) C rfl rfl rfl rfl (lw_X10_pass M1_ iv1_ (xs (i + 1).toNatClampNeg)) (zgV zm_737 zm_738 zm_739 zm_5 zm_740) (by decide +kernel) rfl rfl rfl dL_law_533 rfl rfl (fun r M2_ h2_ => ?_)
  obtain ⟨⟨v2_, rfl⟩, iv2_, c0v2_, c1v2_, c2v2_, c3v2_, c4v2_, c5v2_, c6v2_, c7v2_, c8v2_, c9v2_, c10v2_, c11v2_, c12v2_, c13v2_, c14v2_, c15v2_, c16v2_, c17v2_, K1v2_, K2v2_, K3v2_, K4v2_, T9v2_, T10v2_, G1v2_, G2v2_, G3v2_, G4v2_, A9v2_, A0v2_, VSv2_, VKv2_, WSv2_, WKv2_, HBv2_, HDv2_⟩ := h2_
  have rv2_ : zRl M2_ := by
    have q0_ : M2_.1 8 1 = M2_.1 124 0 := by simp only [c0v2_, c1v2_, c2v2_, c3v2_, c4v2_, c5v2_, c6v2_, c7v2_, c8v2_, c9v2_, c10v2_, c11v2_, c12v2_, c13v2_, c14v2_, c15v2_, c16v2_, c17v2_, c0v1_, c1v1_, c2v1_, c3v1_, c4v1_, c5v1_, c6v1_, c7v1_, c8v1_, c9v1_, c10v1_, c11v1_, c12v1_, c13v1_, c14v1_, c15v1_, c16v1_, c17v1_, hi.2.1, hi.2.2.1, hi.2.2.2.1, hi.2.2.2.2.1, hi.2.2.2.2.2.1, hi.2.2.2.2.2.2.1, hi.2.2.2.2.2.2.2.1, hi.2.2.2.2.2.2.2.2.1, hi.2.2.2.2.2.2.2.2.2.1]
    have q1_ : M2_.1 9 1 = M2_.1 124 48 := by simp only [c0v2_, c1v2_, c2v2_, c3v2_, c4v2_, c5v2_, c6v2_, c7v2_, c8v2_, c9v2_, c10v2_, c11v2_, c12v2_, c13v2_, c14v2_, c15v2_, c16v2_, c17v2_, c0v1_, c1v1_, c2v1_, c3v1_, c4v1_, c5v1_, c6v1_, c7v1_, c8v1_, c9v1_, c10v1_, c11v1_, c12v1_, c13v1_, c14v1_, c15v1_, c16v1_, c17v1_, hi.2.1, hi.2.2.1, hi.2.2.2.1, hi.2.2.2.2.1, hi.2.2.2.2.2.1, hi.2.2.2.2.2.2.1, hi.2.2.2.2.2.2.2.1, hi.2.2.2.2.2.2.2.2.1, hi.2.2.2.2.2.2.2.2.2.1]
    have q2_ : M2_.1 0 5 = M2_.1 124 46 := by simp only [c0v2_, c1v2_, c2v2_, c3v2_, c4v2_, c5v2_, c6v2_, c7v2_, c8v2_, c9v2_, c10v2_, c11v2_, c12v2_, c13v2_, c14v2_, c15v2_, c16v2_, c17v2_, c0v1_, c1v1_, c2v1_, c3v1_, c4v1_, c5v1_, c6v1_, c7v1_, c8v1_, c9v1_, c10v1_, c11v1_, c12v1_, c13v1_, c14v1_, c15v1_, c16v1_, c17v1_, hi.2.1, hi.2.2.1, hi.2.2.2.1, hi.2.2.2.2.1, hi.2.2.2.2.2.1, hi.2.2.2.2.2.2.1, hi.2.2.2.2.2.2.2.1, hi.2.2.2.2.2.2.2.2.1, hi.2.2.2.2.2.2.2.2.2.1]
    have q3_ : M2_.1 101 0 = M2_.1 124 55 := by simp only [c0v2_, c1v2_, c2v2_, c3v2_, c4v2_, c5v2_, c6v2_, c7v2_, c8v2_, c9v2_, c10v2_, c11v2_, c12v2_, c13v2_, c14v2_, c15v2_, c16v2_, c17v2_, c0v1_, c1v1_, c2v1_, c3v1_, c4v1_, c5v1_, c6v1_, c7v1_, c8v1_, c9v1_, c10v1_, c11v1_, c12v1_, c13v1_, c14v1_, c15v1_, c16v1_, c17v1_, hi.2.1, hi.2.2.1, hi.2.2.2.1, hi.2.2.2.2.1, hi.2.2.2.2.2.1, hi.2.2.2.2.2.2.1, hi.2.2.2.2.2.2.2.1, hi.2.2.2.2.2.2.2.2.1, hi.2.2.2.2.2.2.2.2.2.1]
    have q4_ : M2_.1 100 0 = M2_.1 124 37 := by simp only [c0v2_, c1v2_, c2v2_, c3v2_, c4v2_, c5v2_, c6v2_, c7v2_, c8v2_, c9v2_, c10v2_, c11v2_, c12v2_, c13v2_, c14v2_, c15v2_, c16v2_, c17v2_, c0v1_, c1v1_, c2v1_, c3v1_, c4v1_, c5v1_, c6v1_, c7v1_, c8v1_, c9v1_, c10v1_, c11v1_, c12v1_, c13v1_, c14v1_, c15v1_, c16v1_, c17v1_, hi.2.1, hi.2.2.1, hi.2.2.2.1, hi.2.2.2.2.1, hi.2.2.2.2.2.1, hi.2.2.2.2.2.2.1, hi.2.2.2.2.2.2.2.1, hi.2.2.2.2.2.2.2.2.1, hi.2.2.2.2.2.2.2.2.2.1]
    have q5_ : M2_.1 102 0 = M2_.1 124 40 := by simp only [c0v2_, c1v2_, c2v2_, c3v2_, c4v2_, c5v2_, c6v2_, c7v2_, c8v2_, c9v2_, c10v2_, c11v2_, c12v2_, c13v2_, c14v2_, c15v2_, c16v2_, c17v2_, c0v1_, c1v1_, c2v1_, c3v1_, c4v1_, c5v1_, c6v1_, c7v1_, c8v1_, c9v1_, c10v1_, c11v1_, c12v1_, c13v1_, c14v1_, c15v1_, c16v1_, c17v1_, hi.2.1, hi.2.2.1, hi.2.2.2.1, hi.2.2.2.2.1, hi.2.2.2.2.2.1, hi.2.2.2.2.2.2.1, hi.2.2.2.2.2.2.2.1, hi.2.2.2.2.2.2.2.2.1, hi.2.2.2.2.2.2.2.2.2.1]
    have q6_ : M2_.1 103 0 = M2_.1 124 56 := by simp only [c0v2_, c1v2_, c2v2_, c3v2_, c4v2_, c5v2_, c6v2_, c7v2_, c8v2_, c9v2_, c10v2_, c11v2_, c12v2_, c13v2_, c14v2_, c15v2_, c16v2_, c17v2_, c0v1_, c1v1_, c2v1_, c3v1_, c4v1_, c5v1_, c6v1_, c7v1_, c8v1_, c9v1_, c10v1_, c11v1_, c12v1_, c13v1_, c14v1_, c15v1_, c16v1_, c17v1_, hi.2.1, hi.2.2.1, hi.2.2.2.1, hi.2.2.2.2.1, hi.2.2.2.2.2.1, hi.2.2.2.2.2.2.1, hi.2.2.2.2.2.2.2.1, hi.2.2.2.2.2.2.2.2.1, hi.2.2.2.2.2.2.2.2.2.1]
    have q7_ : M2_.1 104 0 = M2_.1 124 43 := by simp only [c0v2_, c1v2_, c2v2_, c3v2_, c4v2_, c5v2_, c6v2_, c7v2_, c8v2_, c9v2_, c10v2_, c11v2_, c12v2_, c13v2_, c14v2_, c15v2_, c16v2_, c17v2_, c0v1_, c1v1_, c2v1_, c3v1_, c4v1_, c5v1_, c6v1_, c7v1_, c8v1_, c9v1_, c10v1_, c11v1_, c12v1_, c13v1_, c14v1_, c15v1_, c16v1_, c17v1_, hi.2.1, hi.2.2.1, hi.2.2.2.1, hi.2.2.2.2.1, hi.2.2.2.2.2.1, hi.2.2.2.2.2.2.1, hi.2.2.2.2.2.2.2.1, hi.2.2.2.2.2.2.2.2.1, hi.2.2.2.2.2.2.2.2.2.1]
    have q8_ : M2_.1 105 0 = M2_.1 124 57 := by simp only [c0v2_, c1v2_, c2v2_, c3v2_, c4v2_, c5v2_, c6v2_, c7v2_, c8v2_, c9v2_, c10v2_, c11v2_, c12v2_, c13v2_, c14v2_, c15v2_, c16v2_, c17v2_, c0v1_, c1v1_, c2v1_, c3v1_, c4v1_, c5v1_, c6v1_, c7v1_, c8v1_, c9v1_, c10v1_, c11v1_, c12v1_, c13v1_, c14v1_, c15v1_, c16v1_, c17v1_, hi.2.1, hi.2.2.1, hi.2.2.2.1, hi.2.2.2.2.1, hi.2.2.2.2.2.1, hi.2.2.2.2.2.2.1, hi.2.2.2.2.2.2.2.1, hi.2.2.2.2.2.2.2.2.1, hi.2.2.2.2.2.2.2.2.2.1]
    exact ⟨q0_, q1_, q2_, q3_, q4_, q5_, q6_, q7_, q8_, zP1_k hi.2.2.2.2.2.2.2.2.2.2.1 (c0v2_.trans c0v1_) (zKc_t K1v1_ K1v2_) (zKm_t K3v1_ K3v2_), zP2_k hi.2.2.2.2.2.2.2.2.2.2.2.1 (c2v2_.trans c2v1_) (zKc_t K2v1_ K2v2_) (zKm_t K4v1_ K4v2_), zPT_k hi.2.2.2.2.2.2.2.2.2.2.2.2.1 T9v1_ T10v1_ T9v2_ T10v2_, zRr_k hi.2.2.2.2.2.2.2.2.2.2.2.2.2.1 (c8v2_.trans c8v1_) G1v1_ G3v1_ G1v2_ G3v2_, zRr_k hi.2.2.2.2.2.2.2.2.2.2.2.2.2.2.1 (c6v2_.trans c6v1_) G2v1_ G4v1_ G2v2_ G4v2_, zPH_k hi.2.2.2.2.2.2.2.2.2.2.2.2.2.2.2.1 A9v1_ A0v1_ A9v2_ A0v2_, zVe_g hi.2.2.2.2.2.2.2.2.2.2.2.2.2.2.2.2.1 (c0v2_.trans c0v1_) (pvok_r hi.1.1 8 1 (lo := 0) (hi := 7) rfl).1 VSv1_ WSv1_ VSv2_ WSv2_, zVe_k hi.2.2.2.2.2.2.2.2.2.2.2.2.2.2.2.2.2.1 (c2v2_.trans c2v1_) VKv1_ WKv1_ VKv2_ WKv2_, zHW_d hi.1.1 hi.2.2.2.2.2.2.2.2.2.2.2.2.2.2.2.2.2.2 HBv1_ HDv1_ HBv2_ HDv2_⟩
  refine zr_pop C dL_law_536 rfl ?_
  refine zr_goto (tgt := 1337) C dL_law_537 (by decide) ?_
  exact kk M2_ ⟨iv2_, rv2_⟩
set_option maxRecDepth 10000 in
theorem zl_case_10 (htab : pvTab) {p : Program} {l : Launch} {e : Env} {s : State} {m : MethodId} {below : List Frame} {meth : Method} {c : Code} {b L : Nat} {xs : Nat → Int32} {D : va_G} {y : Nat → ClassId} {ad : Nat → Nat} {ls : Array Slot} {i : Int32} {Q : State → Prop} {M : pvM} (C : zLc p s m c b L xs D y ad ls i) (hi : zIR M) (kk : ∀ M1, zIR M1 → zLW p l e s m below meth c b D y ad ls Q 1337 [] M1) : zLW p l e s m below meth c b D y ad ls Q 540 [] M := by
  refine zr_x C dL_law_540 ?_
  refine zr_arg 1 C dL_law_541 dL_law_542 dL_law_543 dL_law_544 dL_law_545 (by decide) (by decide) ?_
  refine zr_call htab (j := 199) (n := 1) (q := 0) (as := [pvI (xs (i + 1).toNatClampNeg)]) (rest := []) C rfl rfl rfl rfl (lw_X9_shut M hi.1 (xs (i + 1).toNatClampNeg)) (zgV zm_754 zm_755 zm_756 zm_2 zm_757) (by decide +kernel) rfl rfl rfl dL_law_546 rfl rfl (fun r M1_ h1_ => ?_)
  obtain ⟨⟨v1_, rfl⟩, iv1_, c0v1_, c1v1_, c2v1_, c3v1_, c4v1_, c5v1_, c6v1_, c7v1_, c8v1_, c9v1_, c10v1_, c11v1_, c12v1_, c13v1_, c14v1_, c15v1_, c16v1_, c17v1_, K1v1_, K2v1_, K3v1_, K4v1_, T9v1_, T10v1_, G1v1_, G2v1_, G3v1_, G4v1_, A9v1_, A0v1_, VSv1_, VKv1_, WSv1_, WKv1_, HBv1_, HDv1_⟩ := h1_
  refine zr_m C dL_law_549 ?_
  refine zr_arg 1 C dL_law_550 dL_law_551 dL_law_552 dL_law_553 dL_law_554 (by decide) (by decide) ?_
  refine zr_call htab (j := 74) (n := 1) (q := 124) (as := [pvI (xs (i + 1).toNatClampNeg)]) (rest := [.int v1_]) C rfl rfl rfl rfl (lw_X10_shut M1_ iv1_ (xs (i + 1).toNatClampNeg)) (zgV zm_763 zm_764 zm_765 zm_5 zm_766) (by decide +kernel) rfl rfl rfl dL_law_555 rfl rfl (fun r M2_ h2_ => ?_)
  obtain ⟨⟨v2_, rfl⟩, iv2_, c0v2_, c1v2_, c2v2_, c3v2_, c4v2_, c5v2_, c6v2_, c7v2_, c8v2_, c9v2_, c10v2_, c11v2_, c12v2_, c13v2_, c14v2_, c15v2_, c16v2_, c17v2_, K1v2_, K2v2_, K3v2_, K4v2_, T9v2_, T10v2_, G1v2_, G2v2_, G3v2_, G4v2_, A9v2_, A0v2_, VSv2_, VKv2_, WSv2_, WKv2_, HBv2_, HDv2_⟩ := h2_
  have rv2_ : zRl M2_ := by
    have q0_ : M2_.1 8 1 = M2_.1 124 0 := by simp only [c0v2_, c1v2_, c2v2_, c3v2_, c4v2_, c5v2_, c6v2_, c7v2_, c8v2_, c9v2_, c10v2_, c11v2_, c12v2_, c13v2_, c14v2_, c15v2_, c16v2_, c17v2_, c0v1_, c1v1_, c2v1_, c3v1_, c4v1_, c5v1_, c6v1_, c7v1_, c8v1_, c9v1_, c10v1_, c11v1_, c12v1_, c13v1_, c14v1_, c15v1_, c16v1_, c17v1_, hi.2.1, hi.2.2.1, hi.2.2.2.1, hi.2.2.2.2.1, hi.2.2.2.2.2.1, hi.2.2.2.2.2.2.1, hi.2.2.2.2.2.2.2.1, hi.2.2.2.2.2.2.2.2.1, hi.2.2.2.2.2.2.2.2.2.1]
    have q1_ : M2_.1 9 1 = M2_.1 124 48 := by simp only [c0v2_, c1v2_, c2v2_, c3v2_, c4v2_, c5v2_, c6v2_, c7v2_, c8v2_, c9v2_, c10v2_, c11v2_, c12v2_, c13v2_, c14v2_, c15v2_, c16v2_, c17v2_, c0v1_, c1v1_, c2v1_, c3v1_, c4v1_, c5v1_, c6v1_, c7v1_, c8v1_, c9v1_, c10v1_, c11v1_, c12v1_, c13v1_, c14v1_, c15v1_, c16v1_, c17v1_, hi.2.1, hi.2.2.1, hi.2.2.2.1, hi.2.2.2.2.1, hi.2.2.2.2.2.1, hi.2.2.2.2.2.2.1, hi.2.2.2.2.2.2.2.1, hi.2.2.2.2.2.2.2.2.1, hi.2.2.2.2.2.2.2.2.2.1]
    have q2_ : M2_.1 0 5 = M2_.1 124 46 := by simp only [c0v2_, c1v2_, c2v2_, c3v2_, c4v2_, c5v2_, c6v2_, c7v2_, c8v2_, c9v2_, c10v2_, c11v2_, c12v2_, c13v2_, c14v2_, c15v2_, c16v2_, c17v2_, c0v1_, c1v1_, c2v1_, c3v1_, c4v1_, c5v1_, c6v1_, c7v1_, c8v1_, c9v1_, c10v1_, c11v1_, c12v1_, c13v1_, c14v1_, c15v1_, c16v1_, c17v1_, hi.2.1, hi.2.2.1, hi.2.2.2.1, hi.2.2.2.2.1, hi.2.2.2.2.2.1, hi.2.2.2.2.2.2.1, hi.2.2.2.2.2.2.2.1, hi.2.2.2.2.2.2.2.2.1, hi.2.2.2.2.2.2.2.2.2.1]
    have q3_ : M2_.1 101 0 = M2_.1 124 55 := by simp only [c0v2_, c1v2_, c2v2_, c3v2_, c4v2_, c5v2_, c6v2_, c7v2_, c8v2_, c9v2_, c10v2_, c11v2_, c12v2_, c13v2_, c14v2_, c15v2_, c16v2_, c17v2_, c0v1_, c1v1_, c2v1_, c3v1_, c4v1_, c5v1_, c6v1_, c7v1_, c8v1_, c9v1_, c10v1_, c11v1_, c12v1_, c13v1_, c14v1_, c15v1_, c16v1_, c17v1_, hi.2.1, hi.2.2.1, hi.2.2.2.1, hi.2.2.2.2.1, hi.2.2.2.2.2.1, hi.2.2.2.2.2.2.1, hi.2.2.2.2.2.2.2.1, hi.2.2.2.2.2.2.2.2.1, hi.2.2.2.2.2.2.2.2.2.1]
    have q4_ : M2_.1 100 0 = M2_.1 124 37 := by simp only [c0v2_, c1v2_, c2v2_, c3v2_, c4v2_, c5v2_, c6v2_, c7v2_, c8v2_, c9v2_, c10v2_, c11v2_, c12v2_, c13v2_, c14v2_, c15v2_, c16v2_, c17v2_, c0v1_, c1v1_, c2v1_, c3v1_, c4v1_, c5v1_, c6v1_, c7v1_, c8v1_, c9v1_, c10v1_, c11v1_, c12v1_, c13v1_, c14v1_, c15v1_, c16v1_, c17v1_, hi.2.1, hi.2.2.1, hi.2.2.2.1, hi.2.2.2.2.1, hi.2.2.2.2.2.1, hi.2.2.2.2.2.2.1, hi.2.2.2.2.2.2.2.1, hi.2.2.2.2.2.2.2.2.1, hi.2.2.2.2.2.2.2.2.2.1]
    have q5_ : M2_.1 102 0 = M2_.1 124 40 := by simp only [c0v2_, c1v2_, c2v2_, c3v2_, c4v2_, c5v2_, c6v2_, c7v2_, c8v2_, c9v2_, c10v2_, c11v2_, c12v2_, c13v2_, c14v2_, c15v2_, c16v2_, c17v2_, c0v1_, c1v1_, c2v1_, c3v1_, c4v1_, c5v1_, c6v1_, c7v1_, c8v1_, c9v1_, c10v1_, c11v1_, c12v1_, c13v1_, c14v1_, c15v1_, c16v1_, c17v1_, hi.2.1, hi.2.2.1, hi.2.2.2.1, hi.2.2.2.2.1, hi.2.2.2.2.2.1, hi.2.2.2.2.2.2.1, hi.2.2.2.2.2.2.2.1, hi.2.2.2.2.2.2.2.2.1, hi.2.2.2.2.2.2.2.2.2.1]
    have q6_ : M2_.1 103 0 = M2_.1 124 56 := by simp only [c0v2_, c1v2_, c2v2_, c3v2_, c4v2_, c5v2_, c6v2_, c7v2_, c8v2_, c9v2_, c10v2_, c11v2_, c12v2_, c13v2_, c14v2_, c15v2_, c16v2_, c17v2_, c0v1_, c1v1_, c2v1_, c3v1_, c4v1_, c5v1_, c6v1_, c7v1_, c8v1_, c9v1_, c10v1_, c11v1_, c12v1_, c13v1_, c14v1_, c15v1_, c16v1_, c17v1_, hi.2.1, hi.2.2.1, hi.2.2.2.1, hi.2.2.2.2.1, hi.2.2.2.2.2.1, hi.2.2.2.2.2.2.1, hi.2.2.2.2.2.2.2.1, hi.2.2.2.2.2.2.2.2.1, hi.2.2.2.2.2.2.2.2.2.1]
    have q7_ : M2_.1 104 0 = M2_.1 124 43 := by simp only [c0v2_, c1v2_, c2v2_, c3v2_, c4v2_, c5v2_, c6v2_, c7v2_, c8v2_, c9v2_, c10v2_, c11v2_, c12v2_, c13v2_, c14v2_, c15v2_, c16v2_, c17v2_, c0v1_, c1v1_, c2v1_, c3v1_, c4v1_, c5v1_, c6v1_, c7v1_, c8v1_, c9v1_, c10v1_, c11v1_, c12v1_, c13v1_, c14v1_, c15v1_, c16v1_, c17v1_, hi.2.1, hi.2.2.1, hi.2.2.2.1, hi.2.2.2.2.1, hi.2.2.2.2.2.1, hi.2.2.2.2.2.2.1, hi.2.2.2.2.2.2.2.1, hi.2.2.2.2.2.2.2.2.1, hi.2.2.2.2.2.2.2.2.2.1]
    have q8_ : M2_.1 105 0 = M2_.1 124 57 := by simp only [c0v2_, c1v2_, c2v2_, c3v2_, c4v2_, c5v2_, c6v2_, c7v2_, c8v2_, c9v2_, c10v2_, c11v2_, c12v2_, c13v2_, c14v2_, c15v2_, c16v2_, c17v2_, c0v1_, c1v1_, c2v1_, c3v1_, c4v1_, c5v1_, c6v1_, c7v1_, c8v1_, c9v1_, c10v1_, c11v1_, c12v1_, c13v1_, c14v1_, c15v1_, c16v1_, c17v1_, hi.2.1, hi.2.2.1, hi.2.2.2.1, hi.2.2.2.2.1, hi.2.2.2.2.2.1, hi.2.2.2.2.2.2.1, hi.2.2.2.2.2.2.2.1, hi.2.2.2.2.2.2.2.2.1, hi.2.2.2.2.2.2.2.2.2.1]
    exact ⟨q0_, q1_, q2_, q3_, q4_, q5_, q6_, q7_, q8_, zP1_k hi.2.2.2.2.2.2.2.2.2.2.1 (c0v2_.trans c0v1_) (zKc_t K1v1_ K1v2_) (zKm_t K3v1_ K3v2_), zP2_k hi.2.2.2.2.2.2.2.2.2.2.2.1 (c2v2_.trans c2v1_) (zKc_t K2v1_ K2v2_) (zKm_t K4v1_ K4v2_), zPT_k hi.2.2.2.2.2.2.2.2.2.2.2.2.1 T9v1_ T10v1_ T9v2_ T10v2_, zRr_k hi.2.2.2.2.2.2.2.2.2.2.2.2.2.1 (c8v2_.trans c8v1_) G1v1_ G3v1_ G1v2_ G3v2_, zRr_k hi.2.2.2.2.2.2.2.2.2.2.2.2.2.2.1 (c6v2_.trans c6v1_) G2v1_ G4v1_ G2v2_ G4v2_, zPH_k hi.2.2.2.2.2.2.2.2.2.2.2.2.2.2.2.1 A9v1_ A0v1_ A9v2_ A0v2_, zVe_t hi.2.2.2.2.2.2.2.2.2.2.2.2.2.2.2.2.1 (c0v2_.trans c0v1_) (pvok_r hi.1.1 8 1 (lo := 0) (hi := 7) rfl).1 (by exact zsA_d VSv1_.2 WSv2_.2 (hi.2.1.trans c1v1_.symm) (fun hv => (zsh_e hi.1.1 hi.2.1 hi.2.2.2.2.2.2.2.2.2.2.1 hi.2.2.2.2.2.2.2.2.2.2.2.2.2.2.2.2.1 hi.2.2.2.2.2.2.2.2.2.2.2.2.2.2.2.2.2.2 K3v1_ WSv1_ HDv1_ hv).1)) (fun k => (zsh_e hi.1.1 hi.2.1 hi.2.2.2.2.2.2.2.2.2.2.1 hi.2.2.2.2.2.2.2.2.2.2.2.2.2.2.2.2.1 hi.2.2.2.2.2.2.2.2.2.2.2.2.2.2.2.2.2.2 K3v1_ WSv1_ HDv1_ (zsA_v VSv1_.2 k)).2) VSv1_.1 WSv1_ VSv2_ WSv2_.1, zVe_k hi.2.2.2.2.2.2.2.2.2.2.2.2.2.2.2.2.2.1 (c2v2_.trans c2v1_) VKv1_ WKv1_ VKv2_ WKv2_, zHW_d hi.1.1 hi.2.2.2.2.2.2.2.2.2.2.2.2.2.2.2.2.2.2 HBv1_ HDv1_ HBv2_ HDv2_⟩
  refine zr_icmpeq (tgt := 1337) C dL_law_558 (by decide) (by exact zsA_d VSv1_.2 WSv2_.2 (hi.2.1.trans c1v1_.symm) (fun hv => (zsh_e hi.1.1 hi.2.1 hi.2.2.2.2.2.2.2.2.2.2.1 hi.2.2.2.2.2.2.2.2.2.2.2.2.2.2.2.2.1 hi.2.2.2.2.2.2.2.2.2.2.2.2.2.2.2.2.2.2 K3v1_ WSv1_ HDv1_ hv).1)) ?_
  exact kk M2_ ⟨iv2_, rv2_⟩
set_option maxRecDepth 10000 in
theorem zl_case_11 (htab : pvTab) {p : Program} {l : Launch} {e : Env} {s : State} {m : MethodId} {below : List Frame} {meth : Method} {c : Code} {b L : Nat} {xs : Nat → Int32} {D : va_G} {y : Nat → ClassId} {ad : Nat → Nat} {ls : Array Slot} {i : Int32} {Q : State → Prop} {M : pvM} (C : zLc p s m c b L xs D y ad ls i) (hi : zIR M) (kk : ∀ M1, zIR M1 → zLW p l e s m below meth c b D y ad ls Q 1337 [] M1) : zLW p l e s m below meth c b D y ad ls Q 563 [] M := by
  refine zr_x C dL_law_563 ?_
  refine zr_arg 1 C dL_law_564 dL_law_565 dL_law_566 dL_law_567 dL_law_568 (by decide) (by decide) ?_
  refine zr_call htab (j := 190) (n := 1) (q := 0) (as := [pvI (xs (i + 1).toNatClampNeg)]) (rest := []) C rfl rfl rfl rfl (lw_X9_on M hi.1 (xs (i + 1).toNatClampNeg)) (zgV zm_771 zm_772 zm_773 zm_2 zm_774) (by decide +kernel) rfl rfl rfl dL_law_569 rfl rfl (fun r M1_ h1_ => ?_)
  obtain ⟨⟨v1_, rfl⟩, iv1_, c0v1_, c1v1_, c2v1_, c3v1_, c4v1_, c5v1_, c6v1_, c7v1_, c8v1_, c9v1_, c10v1_, c11v1_, c12v1_, c13v1_, c14v1_, c15v1_, c16v1_, c17v1_, K1v1_, K2v1_, K3v1_, K4v1_, T9v1_, T10v1_, G1v1_, G2v1_, G3v1_, G4v1_, A9v1_, A0v1_, VSv1_, VKv1_, WSv1_, WKv1_, HBv1_, HDv1_⟩ := h1_
  refine zr_pop C dL_law_572 rfl ?_
  refine zr_m C dL_law_573 ?_
  refine zr_arg 1 C dL_law_574 dL_law_575 dL_law_576 dL_law_577 dL_law_578 (by decide) (by decide) ?_
  refine zr_call htab (j := 60) (n := 1) (q := 124) (as := [pvI (xs (i + 1).toNatClampNeg)]) (rest := []) C rfl rfl rfl rfl (lw_X10_on M1_ iv1_ (xs (i + 1).toNatClampNeg)) (zgV zm_775 zm_776 zm_777 zm_5 zm_778) (by decide +kernel) rfl rfl rfl dL_law_579 rfl rfl (fun r M2_ h2_ => ?_)
  obtain ⟨⟨v2_, rfl⟩, iv2_, c0v2_, c1v2_, c2v2_, c3v2_, c4v2_, c5v2_, c6v2_, c7v2_, c8v2_, c9v2_, c10v2_, c11v2_, c12v2_, c13v2_, c14v2_, c15v2_, c16v2_, c17v2_, K1v2_, K2v2_, K3v2_, K4v2_, T9v2_, T10v2_, G1v2_, G2v2_, G3v2_, G4v2_, A9v2_, A0v2_, VSv2_, VKv2_, WSv2_, WKv2_, HBv2_, HDv2_⟩ := h2_
  have rv2_ : zRl M2_ := by
    have q0_ : M2_.1 8 1 = M2_.1 124 0 := by simp only [c0v2_, c1v2_, c2v2_, c3v2_, c4v2_, c5v2_, c6v2_, c7v2_, c8v2_, c9v2_, c10v2_, c11v2_, c12v2_, c13v2_, c14v2_, c15v2_, c16v2_, c17v2_, c0v1_, c1v1_, c2v1_, c3v1_, c4v1_, c5v1_, c6v1_, c7v1_, c8v1_, c9v1_, c10v1_, c11v1_, c12v1_, c13v1_, c14v1_, c15v1_, c16v1_, c17v1_, hi.2.1, hi.2.2.1, hi.2.2.2.1, hi.2.2.2.2.1, hi.2.2.2.2.2.1, hi.2.2.2.2.2.2.1, hi.2.2.2.2.2.2.2.1, hi.2.2.2.2.2.2.2.2.1, hi.2.2.2.2.2.2.2.2.2.1]
    have q1_ : M2_.1 9 1 = M2_.1 124 48 := by simp only [c0v2_, c1v2_, c2v2_, c3v2_, c4v2_, c5v2_, c6v2_, c7v2_, c8v2_, c9v2_, c10v2_, c11v2_, c12v2_, c13v2_, c14v2_, c15v2_, c16v2_, c17v2_, c0v1_, c1v1_, c2v1_, c3v1_, c4v1_, c5v1_, c6v1_, c7v1_, c8v1_, c9v1_, c10v1_, c11v1_, c12v1_, c13v1_, c14v1_, c15v1_, c16v1_, c17v1_, hi.2.1, hi.2.2.1, hi.2.2.2.1, hi.2.2.2.2.1, hi.2.2.2.2.2.1, hi.2.2.2.2.2.2.1, hi.2.2.2.2.2.2.2.1, hi.2.2.2.2.2.2.2.2.1, hi.2.2.2.2.2.2.2.2.2.1]
    have q2_ : M2_.1 0 5 = M2_.1 124 46 := by simp only [c0v2_, c1v2_, c2v2_, c3v2_, c4v2_, c5v2_, c6v2_, c7v2_, c8v2_, c9v2_, c10v2_, c11v2_, c12v2_, c13v2_, c14v2_, c15v2_, c16v2_, c17v2_, c0v1_, c1v1_, c2v1_, c3v1_, c4v1_, c5v1_, c6v1_, c7v1_, c8v1_, c9v1_, c10v1_, c11v1_, c12v1_, c13v1_, c14v1_, c15v1_, c16v1_, c17v1_, hi.2.1, hi.2.2.1, hi.2.2.2.1, hi.2.2.2.2.1, hi.2.2.2.2.2.1, hi.2.2.2.2.2.2.1, hi.2.2.2.2.2.2.2.1, hi.2.2.2.2.2.2.2.2.1, hi.2.2.2.2.2.2.2.2.2.1]
    have q3_ : M2_.1 101 0 = M2_.1 124 55 := by simp only [c0v2_, c1v2_, c2v2_, c3v2_, c4v2_, c5v2_, c6v2_, c7v2_, c8v2_, c9v2_, c10v2_, c11v2_, c12v2_, c13v2_, c14v2_, c15v2_, c16v2_, c17v2_, c0v1_, c1v1_, c2v1_, c3v1_, c4v1_, c5v1_, c6v1_, c7v1_, c8v1_, c9v1_, c10v1_, c11v1_, c12v1_, c13v1_, c14v1_, c15v1_, c16v1_, c17v1_, hi.2.1, hi.2.2.1, hi.2.2.2.1, hi.2.2.2.2.1, hi.2.2.2.2.2.1, hi.2.2.2.2.2.2.1, hi.2.2.2.2.2.2.2.1, hi.2.2.2.2.2.2.2.2.1, hi.2.2.2.2.2.2.2.2.2.1]
    have q4_ : M2_.1 100 0 = M2_.1 124 37 := by simp only [c0v2_, c1v2_, c2v2_, c3v2_, c4v2_, c5v2_, c6v2_, c7v2_, c8v2_, c9v2_, c10v2_, c11v2_, c12v2_, c13v2_, c14v2_, c15v2_, c16v2_, c17v2_, c0v1_, c1v1_, c2v1_, c3v1_, c4v1_, c5v1_, c6v1_, c7v1_, c8v1_, c9v1_, c10v1_, c11v1_, c12v1_, c13v1_, c14v1_, c15v1_, c16v1_, c17v1_, hi.2.1, hi.2.2.1, hi.2.2.2.1, hi.2.2.2.2.1, hi.2.2.2.2.2.1, hi.2.2.2.2.2.2.1, hi.2.2.2.2.2.2.2.1, hi.2.2.2.2.2.2.2.2.1, hi.2.2.2.2.2.2.2.2.2.1]
    have q5_ : M2_.1 102 0 = M2_.1 124 40 := by simp only [c0v2_, c1v2_, c2v2_, c3v2_, c4v2_, c5v2_, c6v2_, c7v2_, c8v2_, c9v2_, c10v2_, c11v2_, c12v2_, c13v2_, c14v2_, c15v2_, c16v2_, c17v2_, c0v1_, c1v1_, c2v1_, c3v1_, c4v1_, c5v1_, c6v1_, c7v1_, c8v1_, c9v1_, c10v1_, c11v1_, c12v1_, c13v1_, c14v1_, c15v1_, c16v1_, c17v1_, hi.2.1, hi.2.2.1, hi.2.2.2.1, hi.2.2.2.2.1, hi.2.2.2.2.2.1, hi.2.2.2.2.2.2.1, hi.2.2.2.2.2.2.2.1, hi.2.2.2.2.2.2.2.2.1, hi.2.2.2.2.2.2.2.2.2.1]
    have q6_ : M2_.1 103 0 = M2_.1 124 56 := by simp only [c0v2_, c1v2_, c2v2_, c3v2_, c4v2_, c5v2_, c6v2_, c7v2_, c8v2_, c9v2_, c10v2_, c11v2_, c12v2_, c13v2_, c14v2_, c15v2_, c16v2_, c17v2_, c0v1_, c1v1_, c2v1_, c3v1_, c4v1_, c5v1_, c6v1_, c7v1_, c8v1_, c9v1_, c10v1_, c11v1_, c12v1_, c13v1_, c14v1_, c15v1_, c16v1_, c17v1_, hi.2.1, hi.2.2.1, hi.2.2.2.1, hi.2.2.2.2.1, hi.2.2.2.2.2.1, hi.2.2.2.2.2.2.1, hi.2.2.2.2.2.2.2.1, hi.2.2.2.2.2.2.2.2.1, hi.2.2.2.2.2.2.2.2.2.1]
    have q7_ : M2_.1 104 0 = M2_.1 124 43 := by simp only [c0v2_, c1v2_, c2v2_, c3v2_, c4v2_, c5v2_, c6v2_, c7v2_, c8v2_, c9v2_, c10v2_, c11v2_, c12v2_, c13v2_, c14v2_, c15v2_, c16v2_, c17v2_, c0v1_, c1v1_, c2v1_, c3v1_, c4v1_, c5v1_, c6v1_, c7v1_, c8v1_, c9v1_, c10v1_, c11v1_, c12v1_, c13v1_, c14v1_, c15v1_, c16v1_, c17v1_, hi.2.1, hi.2.2.1, hi.2.2.2.1, hi.2.2.2.2.1, hi.2.2.2.2.2.1, hi.2.2.2.2.2.2.1, hi.2.2.2.2.2.2.2.1, hi.2.2.2.2.2.2.2.2.1, hi.2.2.2.2.2.2.2.2.2.1]
    have q8_ : M2_.1 105 0 = M2_.1 124 57 := by simp only [c0v2_, c1v2_, c2v2_, c3v2_, c4v2_, c5v2_, c6v2_, c7v2_, c8v2_, c9v2_, c10v2_, c11v2_, c12v2_, c13v2_, c14v2_, c15v2_, c16v2_, c17v2_, c0v1_, c1v1_, c2v1_, c3v1_, c4v1_, c5v1_, c6v1_, c7v1_, c8v1_, c9v1_, c10v1_, c11v1_, c12v1_, c13v1_, c14v1_, c15v1_, c16v1_, c17v1_, hi.2.1, hi.2.2.1, hi.2.2.2.1, hi.2.2.2.2.1, hi.2.2.2.2.2.1, hi.2.2.2.2.2.2.1, hi.2.2.2.2.2.2.2.1, hi.2.2.2.2.2.2.2.2.1, hi.2.2.2.2.2.2.2.2.2.1]
    exact ⟨q0_, q1_, q2_, q3_, q4_, q5_, q6_, q7_, q8_, zP1_k hi.2.2.2.2.2.2.2.2.2.2.1 (c0v2_.trans c0v1_) (zKc_t K1v1_ K1v2_) (zKm_t K3v1_ K3v2_), zP2_k hi.2.2.2.2.2.2.2.2.2.2.2.1 (c2v2_.trans c2v1_) (zKc_t K2v1_ K2v2_) (zKm_t K4v1_ K4v2_), zPT_k hi.2.2.2.2.2.2.2.2.2.2.2.2.1 T9v1_ T10v1_ T9v2_ T10v2_, zRr_k hi.2.2.2.2.2.2.2.2.2.2.2.2.2.1 (c8v2_.trans c8v1_) G1v1_ G3v1_ G1v2_ G3v2_, zRr_k hi.2.2.2.2.2.2.2.2.2.2.2.2.2.2.1 (c6v2_.trans c6v1_) G2v1_ G4v1_ G2v2_ G4v2_, zPH_k hi.2.2.2.2.2.2.2.2.2.2.2.2.2.2.2.1 A9v1_ A0v1_ A9v2_ A0v2_, zVe_k hi.2.2.2.2.2.2.2.2.2.2.2.2.2.2.2.2.1 (c0v2_.trans c0v1_) VSv1_ WSv1_ VSv2_ WSv2_, zVe_k hi.2.2.2.2.2.2.2.2.2.2.2.2.2.2.2.2.2.1 (c2v2_.trans c2v1_) VKv1_ WKv1_ VKv2_ WKv2_, zHW_d hi.1.1 hi.2.2.2.2.2.2.2.2.2.2.2.2.2.2.2.2.2.2 HBv1_ HDv1_ HBv2_ HDv2_⟩
  refine zr_pop C dL_law_582 rfl ?_
  refine zr_goto (tgt := 1337) C dL_law_583 (by decide) ?_
  exact kk M2_ ⟨iv2_, rv2_⟩
set_option maxRecDepth 10000 in
theorem zl_case_12 (htab : pvTab) {p : Program} {l : Launch} {e : Env} {s : State} {m : MethodId} {below : List Frame} {meth : Method} {c : Code} {b L : Nat} {xs : Nat → Int32} {D : va_G} {y : Nat → ClassId} {ad : Nat → Nat} {ls : Array Slot} {i : Int32} {Q : State → Prop} {M : pvM} (C : zLc p s m c b L xs D y ad ls i) (hi : zIR M) (kk : ∀ M1, zIR M1 → zLW p l e s m below meth c b D y ad ls Q 1337 [] M1) : zLW p l e s m below meth c b D y ad ls Q 586 [] M := by
  refine zr_x C dL_law_586 ?_
  refine zr_arg 1 C dL_law_587 dL_law_588 dL_law_589 dL_law_590 dL_law_591 (by decide) (by decide) ?_
  refine zr_call htab (j := 167) (n := 1) (q := 0) (as := [pvI (xs (i + 1).toNatClampNeg)]) (rest := []) C rfl rfl rfl rfl (lw_X9_add M hi.1 (xs (i + 1).toNatClampNeg)) (zgV zm_779 zm_780 zm_781 zm_2 zm_782) (by decide +kernel) rfl rfl rfl dL_law_592 rfl rfl (fun r M1_ h1_ => ?_)
  obtain ⟨⟨v1_, rfl, ev1_⟩, iv1_, c0v1_, c1v1_, c2v1_, c3v1_, c4v1_, c5v1_, c6v1_, c7v1_, c8v1_, c9v1_, c10v1_, c11v1_, c12v1_, c13v1_, c14v1_, c15v1_, c16v1_, c17v1_, K1v1_, K2v1_, K3v1_, K4v1_, T9v1_, T10v1_, G1v1_, G2v1_, G3v1_, G4v1_, A9v1_, A0v1_, VSv1_, VKv1_, WSv1_, WKv1_, HBv1_, HDv1_⟩ := h1_
  refine zr_pop C dL_law_595 rfl ?_
  refine zr_m C dL_law_596 ?_
  refine zr_arg 1 C dL_law_597 dL_law_598 dL_law_599 dL_law_600 dL_law_601 (by decide) (by decide) ?_
  refine zr_call htab (j := 6) (n := 1) (q := 124) (as := [pvI (xs (i + 1).toNatClampNeg)]) (rest := []) C rfl rfl rfl rfl (lw_X10_add M1_ iv1_ (xs (i + 1).toNatClampNeg)) (zgV zm_801 zm_802 zm_803 zm_5 zm_804) (by decide +kernel) rfl rfl rfl dL_law_602 rfl rfl (fun r M2_ h2_ => ?_)
  obtain ⟨⟨v2_, rfl, ev2_⟩, iv2_, c0v2_, c1v2_, c2v2_, c3v2_, c4v2_, c5v2_, c6v2_, c7v2_, c8v2_, c9v2_, c10v2_, c11v2_, c12v2_, c13v2_, c14v2_, c15v2_, c16v2_, c17v2_, K1v2_, K2v2_, K3v2_, K4v2_, T9v2_, T10v2_, G1v2_, G2v2_, G3v2_, G4v2_, A9v2_, A0v2_, VSv2_, VKv2_, WSv2_, WKv2_, HBv2_, HDv2_⟩ := h2_
  have rv2_ : zRl M2_ := by
    have q0_ : M2_.1 8 1 = M2_.1 124 0 := by simp only [c0v2_, c1v2_, c2v2_, c3v2_, c4v2_, c5v2_, c6v2_, c7v2_, c8v2_, c9v2_, c10v2_, c11v2_, c12v2_, c13v2_, c14v2_, c15v2_, c16v2_, c17v2_, c0v1_, c1v1_, c2v1_, c3v1_, c4v1_, c5v1_, c6v1_, c7v1_, c8v1_, c9v1_, c10v1_, c11v1_, c12v1_, c13v1_, c14v1_, c15v1_, c16v1_, c17v1_, hi.2.1, hi.2.2.1, hi.2.2.2.1, hi.2.2.2.2.1, hi.2.2.2.2.2.1, hi.2.2.2.2.2.2.1, hi.2.2.2.2.2.2.2.1, hi.2.2.2.2.2.2.2.2.1, hi.2.2.2.2.2.2.2.2.2.1]
    have q1_ : M2_.1 9 1 = M2_.1 124 48 := by simp only [c0v2_, c1v2_, c2v2_, c3v2_, c4v2_, c5v2_, c6v2_, c7v2_, c8v2_, c9v2_, c10v2_, c11v2_, c12v2_, c13v2_, c14v2_, c15v2_, c16v2_, c17v2_, c0v1_, c1v1_, c2v1_, c3v1_, c4v1_, c5v1_, c6v1_, c7v1_, c8v1_, c9v1_, c10v1_, c11v1_, c12v1_, c13v1_, c14v1_, c15v1_, c16v1_, c17v1_, hi.2.1, hi.2.2.1, hi.2.2.2.1, hi.2.2.2.2.1, hi.2.2.2.2.2.1, hi.2.2.2.2.2.2.1, hi.2.2.2.2.2.2.2.1, hi.2.2.2.2.2.2.2.2.1, hi.2.2.2.2.2.2.2.2.2.1]
    have q2_ : M2_.1 0 5 = M2_.1 124 46 := by simp only [c0v2_, c1v2_, c2v2_, c3v2_, c4v2_, c5v2_, c6v2_, c7v2_, c8v2_, c9v2_, c10v2_, c11v2_, c12v2_, c13v2_, c14v2_, c15v2_, c16v2_, c17v2_, c0v1_, c1v1_, c2v1_, c3v1_, c4v1_, c5v1_, c6v1_, c7v1_, c8v1_, c9v1_, c10v1_, c11v1_, c12v1_, c13v1_, c14v1_, c15v1_, c16v1_, c17v1_, hi.2.1, hi.2.2.1, hi.2.2.2.1, hi.2.2.2.2.1, hi.2.2.2.2.2.1, hi.2.2.2.2.2.2.1, hi.2.2.2.2.2.2.2.1, hi.2.2.2.2.2.2.2.2.1, hi.2.2.2.2.2.2.2.2.2.1]
    have q3_ : M2_.1 101 0 = M2_.1 124 55 := by simp only [c0v2_, c1v2_, c2v2_, c3v2_, c4v2_, c5v2_, c6v2_, c7v2_, c8v2_, c9v2_, c10v2_, c11v2_, c12v2_, c13v2_, c14v2_, c15v2_, c16v2_, c17v2_, c0v1_, c1v1_, c2v1_, c3v1_, c4v1_, c5v1_, c6v1_, c7v1_, c8v1_, c9v1_, c10v1_, c11v1_, c12v1_, c13v1_, c14v1_, c15v1_, c16v1_, c17v1_, hi.2.1, hi.2.2.1, hi.2.2.2.1, hi.2.2.2.2.1, hi.2.2.2.2.2.1, hi.2.2.2.2.2.2.1, hi.2.2.2.2.2.2.2.1, hi.2.2.2.2.2.2.2.2.1, hi.2.2.2.2.2.2.2.2.2.1]
    have q4_ : M2_.1 100 0 = M2_.1 124 37 := by exact (zRr_a (by decide) hi.2.2.2.2.2.2.2.2.2.2.2.2.2.1 (pvok_r hi.1.1 100 0 rfl).1 hi.2.2.2.2.2.1 (by rw [ev1_, ev2_]; exact zq_add M M1_ (c1v1_.trans hi.2.1.symm) (pvok_r hi.1.1 8 1 rfl) (c9v1_.trans hi.2.2.2.2.2.1.symm) (pvok_r hi.1.1 100 0 rfl) (fun i hi_ hn => (hi.2.2.2.2.2.2.2.2.2.2.2.2.2.1 i hi_ hn).trans (G3v1_ i hi_).symm) _) G1v1_ G3v1_ c9v1_ G3v2_ G1v2_ c8v2_).2
    have q5_ : M2_.1 102 0 = M2_.1 124 40 := by simp only [c0v2_, c1v2_, c2v2_, c3v2_, c4v2_, c5v2_, c6v2_, c7v2_, c8v2_, c9v2_, c10v2_, c11v2_, c12v2_, c13v2_, c14v2_, c15v2_, c16v2_, c17v2_, c0v1_, c1v1_, c2v1_, c3v1_, c4v1_, c5v1_, c6v1_, c7v1_, c8v1_, c9v1_, c10v1_, c11v1_, c12v1_, c13v1_, c14v1_, c15v1_, c16v1_, c17v1_, hi.2.1, hi.2.2.1, hi.2.2.2.1, hi.2.2.2.2.1, hi.2.2.2.2.2.1, hi.2.2.2.2.2.2.1, hi.2.2.2.2.2.2.2.1, hi.2.2.2.2.2.2.2.2.1, hi.2.2.2.2.2.2.2.2.2.1]
    have q6_ : M2_.1 103 0 = M2_.1 124 56 := by simp only [c0v2_, c1v2_, c2v2_, c3v2_, c4v2_, c5v2_, c6v2_, c7v2_, c8v2_, c9v2_, c10v2_, c11v2_, c12v2_, c13v2_, c14v2_, c15v2_, c16v2_, c17v2_, c0v1_, c1v1_, c2v1_, c3v1_, c4v1_, c5v1_, c6v1_, c7v1_, c8v1_, c9v1_, c10v1_, c11v1_, c12v1_, c13v1_, c14v1_, c15v1_, c16v1_, c17v1_, hi.2.1, hi.2.2.1, hi.2.2.2.1, hi.2.2.2.2.1, hi.2.2.2.2.2.1, hi.2.2.2.2.2.2.1, hi.2.2.2.2.2.2.2.1, hi.2.2.2.2.2.2.2.2.1, hi.2.2.2.2.2.2.2.2.2.1]
    have q7_ : M2_.1 104 0 = M2_.1 124 43 := by simp only [c0v2_, c1v2_, c2v2_, c3v2_, c4v2_, c5v2_, c6v2_, c7v2_, c8v2_, c9v2_, c10v2_, c11v2_, c12v2_, c13v2_, c14v2_, c15v2_, c16v2_, c17v2_, c0v1_, c1v1_, c2v1_, c3v1_, c4v1_, c5v1_, c6v1_, c7v1_, c8v1_, c9v1_, c10v1_, c11v1_, c12v1_, c13v1_, c14v1_, c15v1_, c16v1_, c17v1_, hi.2.1, hi.2.2.1, hi.2.2.2.1, hi.2.2.2.2.1, hi.2.2.2.2.2.1, hi.2.2.2.2.2.2.1, hi.2.2.2.2.2.2.2.1, hi.2.2.2.2.2.2.2.2.1, hi.2.2.2.2.2.2.2.2.2.1]
    have q8_ : M2_.1 105 0 = M2_.1 124 57 := by simp only [c0v2_, c1v2_, c2v2_, c3v2_, c4v2_, c5v2_, c6v2_, c7v2_, c8v2_, c9v2_, c10v2_, c11v2_, c12v2_, c13v2_, c14v2_, c15v2_, c16v2_, c17v2_, c0v1_, c1v1_, c2v1_, c3v1_, c4v1_, c5v1_, c6v1_, c7v1_, c8v1_, c9v1_, c10v1_, c11v1_, c12v1_, c13v1_, c14v1_, c15v1_, c16v1_, c17v1_, hi.2.1, hi.2.2.1, hi.2.2.2.1, hi.2.2.2.2.1, hi.2.2.2.2.2.1, hi.2.2.2.2.2.2.1, hi.2.2.2.2.2.2.2.1, hi.2.2.2.2.2.2.2.2.1, hi.2.2.2.2.2.2.2.2.2.1]
    exact ⟨q0_, q1_, q2_, q3_, q4_, q5_, q6_, q7_, q8_, zP1_k hi.2.2.2.2.2.2.2.2.2.2.1 (c0v2_.trans c0v1_) (zKc_t K1v1_ K1v2_) (zKm_t K3v1_ K3v2_), zP2_k hi.2.2.2.2.2.2.2.2.2.2.2.1 (c2v2_.trans c2v1_) (zKc_t K2v1_ K2v2_) (zKm_t K4v1_ K4v2_), zPT_k hi.2.2.2.2.2.2.2.2.2.2.2.2.1 T9v1_ T10v1_ T9v2_ T10v2_, (zRr_a (by decide) hi.2.2.2.2.2.2.2.2.2.2.2.2.2.1 (pvok_r hi.1.1 100 0 rfl).1 hi.2.2.2.2.2.1 (by rw [ev1_, ev2_]; exact zq_add M M1_ (c1v1_.trans hi.2.1.symm) (pvok_r hi.1.1 8 1 rfl) (c9v1_.trans hi.2.2.2.2.2.1.symm) (pvok_r hi.1.1 100 0 rfl) (fun i hi_ hn => (hi.2.2.2.2.2.2.2.2.2.2.2.2.2.1 i hi_ hn).trans (G3v1_ i hi_).symm) _) G1v1_ G3v1_ c9v1_ G3v2_ G1v2_ c8v2_).1, zRr_k hi.2.2.2.2.2.2.2.2.2.2.2.2.2.2.1 (c6v2_.trans c6v1_) G2v1_ G4v1_ G2v2_ G4v2_, zPH_k hi.2.2.2.2.2.2.2.2.2.2.2.2.2.2.2.1 A9v1_ A0v1_ A9v2_ A0v2_, zVe_k hi.2.2.2.2.2.2.2.2.2.2.2.2.2.2.2.2.1 (c0v2_.trans c0v1_) VSv1_ WSv1_ VSv2_ WSv2_, zVe_k hi.2.2.2.2.2.2.2.2.2.2.2.2.2.2.2.2.2.1 (c2v2_.trans c2v1_) VKv1_ WKv1_ VKv2_ WKv2_, zHW_d hi.1.1 hi.2.2.2.2.2.2.2.2.2.2.2.2.2.2.2.2.2.2 HBv1_ HDv1_ HBv2_ HDv2_⟩
  refine zr_pop C dL_law_605 rfl ?_
  refine zr_goto (tgt := 1337) C dL_law_606 (by decide) ?_
  exact kk M2_ ⟨iv2_, rv2_⟩
set_option maxRecDepth 10000 in
theorem zl_case_13 (htab : pvTab) {p : Program} {l : Launch} {e : Env} {s : State} {m : MethodId} {below : List Frame} {meth : Method} {c : Code} {b L : Nat} {xs : Nat → Int32} {D : va_G} {y : Nat → ClassId} {ad : Nat → Nat} {ls : Array Slot} {i : Int32} {Q : State → Prop} {M : pvM} (C : zLc p s m c b L xs D y ad ls i) (hi : zIR M) (kk : ∀ M1, zIR M1 → zLW p l e s m below meth c b D y ad ls Q 1337 [] M1) : zLW p l e s m below meth c b D y ad ls Q 609 [] M := by
  refine zr_x C dL_law_609 ?_
  refine zr_arg 1 C dL_law_610 dL_law_611 dL_law_612 dL_law_613 dL_law_614 (by decide) (by decide) ?_
  refine zr_call htab (j := 195) (n := 1) (q := 0) (as := [pvI (xs (i + 1).toNatClampNeg)]) (rest := []) C rfl rfl rfl rfl (lw_X9_round M hi.1 (xs (i + 1).toNatClampNeg)) (zgV zm_805 zm_806 zm_807 zm_2 zm_808) (by decide +kernel) rfl rfl rfl dL_law_615 rfl rfl (fun r M1_ h1_ => ?_)
  obtain ⟨⟨v1_, rfl⟩, iv1_, c0v1_, c1v1_, c2v1_, c3v1_, c4v1_, c5v1_, c6v1_, c7v1_, c8v1_, c9v1_, c10v1_, c11v1_, c12v1_, c13v1_, c14v1_, c15v1_, c16v1_, c17v1_, K1v1_, K2v1_, K3v1_, K4v1_, T9v1_, T10v1_, G1v1_, G2v1_, G3v1_, G4v1_, A9v1_, A0v1_, VSv1_, VKv1_, WSv1_, WKv1_, HBv1_, HDv1_⟩ := h1_
  refine zr_pop C dL_law_618 rfl ?_
  refine zr_m C dL_law_619 ?_
  refine zr_arg 1 C dL_law_620 dL_law_621 dL_law_622 dL_law_623 dL_law_624 (by decide) (by decide) ?_
  refine zr_call htab (j := 69) (n := 1) (q := 124) (as := [pvI (xs (i + 1).toNatClampNeg)]) (rest := []) C rfl rfl rfl rfl (lw_X10_round M1_ iv1_ (xs (i + 1).toNatClampNeg)) (zgV zm_836 zm_837 zm_838 zm_5 zm_839) (by decide +kernel) rfl rfl rfl dL_law_625 rfl rfl (fun r M2_ h2_ => ?_)
  obtain ⟨⟨v2_, rfl⟩, iv2_, c0v2_, c1v2_, c2v2_, c3v2_, c4v2_, c5v2_, c6v2_, c7v2_, c8v2_, c9v2_, c10v2_, c11v2_, c12v2_, c13v2_, c14v2_, c15v2_, c16v2_, c17v2_, K1v2_, K2v2_, K3v2_, K4v2_, T9v2_, T10v2_, G1v2_, G2v2_, G3v2_, G4v2_, A9v2_, A0v2_, VSv2_, VKv2_, WSv2_, WKv2_, HBv2_, HDv2_⟩ := h2_
  have rv2_ : zRl M2_ := by
    have q0_ : M2_.1 8 1 = M2_.1 124 0 := by simp only [c0v2_, c1v2_, c2v2_, c3v2_, c4v2_, c5v2_, c6v2_, c7v2_, c8v2_, c9v2_, c10v2_, c11v2_, c12v2_, c13v2_, c14v2_, c15v2_, c16v2_, c17v2_, c0v1_, c1v1_, c2v1_, c3v1_, c4v1_, c5v1_, c6v1_, c7v1_, c8v1_, c9v1_, c10v1_, c11v1_, c12v1_, c13v1_, c14v1_, c15v1_, c16v1_, c17v1_, hi.2.1, hi.2.2.1, hi.2.2.2.1, hi.2.2.2.2.1, hi.2.2.2.2.2.1, hi.2.2.2.2.2.2.1, hi.2.2.2.2.2.2.2.1, hi.2.2.2.2.2.2.2.2.1, hi.2.2.2.2.2.2.2.2.2.1]
    have q1_ : M2_.1 9 1 = M2_.1 124 48 := by simp only [c0v2_, c1v2_, c2v2_, c3v2_, c4v2_, c5v2_, c6v2_, c7v2_, c8v2_, c9v2_, c10v2_, c11v2_, c12v2_, c13v2_, c14v2_, c15v2_, c16v2_, c17v2_, c0v1_, c1v1_, c2v1_, c3v1_, c4v1_, c5v1_, c6v1_, c7v1_, c8v1_, c9v1_, c10v1_, c11v1_, c12v1_, c13v1_, c14v1_, c15v1_, c16v1_, c17v1_, hi.2.1, hi.2.2.1, hi.2.2.2.1, hi.2.2.2.2.1, hi.2.2.2.2.2.1, hi.2.2.2.2.2.2.1, hi.2.2.2.2.2.2.2.1, hi.2.2.2.2.2.2.2.2.1, hi.2.2.2.2.2.2.2.2.2.1]
    have q2_ : M2_.1 0 5 = M2_.1 124 46 := by simp only [c0v2_, c1v2_, c2v2_, c3v2_, c4v2_, c5v2_, c6v2_, c7v2_, c8v2_, c9v2_, c10v2_, c11v2_, c12v2_, c13v2_, c14v2_, c15v2_, c16v2_, c17v2_, c0v1_, c1v1_, c2v1_, c3v1_, c4v1_, c5v1_, c6v1_, c7v1_, c8v1_, c9v1_, c10v1_, c11v1_, c12v1_, c13v1_, c14v1_, c15v1_, c16v1_, c17v1_, hi.2.1, hi.2.2.1, hi.2.2.2.1, hi.2.2.2.2.1, hi.2.2.2.2.2.1, hi.2.2.2.2.2.2.1, hi.2.2.2.2.2.2.2.1, hi.2.2.2.2.2.2.2.2.1, hi.2.2.2.2.2.2.2.2.2.1]
    have q3_ : M2_.1 101 0 = M2_.1 124 55 := by simp only [c0v2_, c1v2_, c2v2_, c3v2_, c4v2_, c5v2_, c6v2_, c7v2_, c8v2_, c9v2_, c10v2_, c11v2_, c12v2_, c13v2_, c14v2_, c15v2_, c16v2_, c17v2_, c0v1_, c1v1_, c2v1_, c3v1_, c4v1_, c5v1_, c6v1_, c7v1_, c8v1_, c9v1_, c10v1_, c11v1_, c12v1_, c13v1_, c14v1_, c15v1_, c16v1_, c17v1_, hi.2.1, hi.2.2.1, hi.2.2.2.1, hi.2.2.2.2.1, hi.2.2.2.2.2.1, hi.2.2.2.2.2.2.1, hi.2.2.2.2.2.2.2.1, hi.2.2.2.2.2.2.2.2.1, hi.2.2.2.2.2.2.2.2.2.1]
    have q4_ : M2_.1 100 0 = M2_.1 124 37 := by simp only [c0v2_, c1v2_, c2v2_, c3v2_, c4v2_, c5v2_, c6v2_, c7v2_, c8v2_, c9v2_, c10v2_, c11v2_, c12v2_, c13v2_, c14v2_, c15v2_, c16v2_, c17v2_, c0v1_, c1v1_, c2v1_, c3v1_, c4v1_, c5v1_, c6v1_, c7v1_, c8v1_, c9v1_, c10v1_, c11v1_, c12v1_, c13v1_, c14v1_, c15v1_, c16v1_, c17v1_, hi.2.1, hi.2.2.1, hi.2.2.2.1, hi.2.2.2.2.1, hi.2.2.2.2.2.1, hi.2.2.2.2.2.2.1, hi.2.2.2.2.2.2.2.1, hi.2.2.2.2.2.2.2.2.1, hi.2.2.2.2.2.2.2.2.2.1]
    have q5_ : M2_.1 102 0 = M2_.1 124 40 := by simp only [c0v2_, c1v2_, c2v2_, c3v2_, c4v2_, c5v2_, c6v2_, c7v2_, c8v2_, c9v2_, c10v2_, c11v2_, c12v2_, c13v2_, c14v2_, c15v2_, c16v2_, c17v2_, c0v1_, c1v1_, c2v1_, c3v1_, c4v1_, c5v1_, c6v1_, c7v1_, c8v1_, c9v1_, c10v1_, c11v1_, c12v1_, c13v1_, c14v1_, c15v1_, c16v1_, c17v1_, hi.2.1, hi.2.2.1, hi.2.2.2.1, hi.2.2.2.2.1, hi.2.2.2.2.2.1, hi.2.2.2.2.2.2.1, hi.2.2.2.2.2.2.2.1, hi.2.2.2.2.2.2.2.2.1, hi.2.2.2.2.2.2.2.2.2.1]
    have q6_ : M2_.1 103 0 = M2_.1 124 56 := by simp only [c0v2_, c1v2_, c2v2_, c3v2_, c4v2_, c5v2_, c6v2_, c7v2_, c8v2_, c9v2_, c10v2_, c11v2_, c12v2_, c13v2_, c14v2_, c15v2_, c16v2_, c17v2_, c0v1_, c1v1_, c2v1_, c3v1_, c4v1_, c5v1_, c6v1_, c7v1_, c8v1_, c9v1_, c10v1_, c11v1_, c12v1_, c13v1_, c14v1_, c15v1_, c16v1_, c17v1_, hi.2.1, hi.2.2.1, hi.2.2.2.1, hi.2.2.2.2.1, hi.2.2.2.2.2.1, hi.2.2.2.2.2.2.1, hi.2.2.2.2.2.2.2.1, hi.2.2.2.2.2.2.2.2.1, hi.2.2.2.2.2.2.2.2.2.1]
    have q7_ : M2_.1 104 0 = M2_.1 124 43 := by simp only [c0v2_, c1v2_, c2v2_, c3v2_, c4v2_, c5v2_, c6v2_, c7v2_, c8v2_, c9v2_, c10v2_, c11v2_, c12v2_, c13v2_, c14v2_, c15v2_, c16v2_, c17v2_, c0v1_, c1v1_, c2v1_, c3v1_, c4v1_, c5v1_, c6v1_, c7v1_, c8v1_, c9v1_, c10v1_, c11v1_, c12v1_, c13v1_, c14v1_, c15v1_, c16v1_, c17v1_, hi.2.1, hi.2.2.1, hi.2.2.2.1, hi.2.2.2.2.1, hi.2.2.2.2.2.1, hi.2.2.2.2.2.2.1, hi.2.2.2.2.2.2.2.1, hi.2.2.2.2.2.2.2.2.1, hi.2.2.2.2.2.2.2.2.2.1]
    have q8_ : M2_.1 105 0 = M2_.1 124 57 := by simp only [c0v2_, c1v2_, c2v2_, c3v2_, c4v2_, c5v2_, c6v2_, c7v2_, c8v2_, c9v2_, c10v2_, c11v2_, c12v2_, c13v2_, c14v2_, c15v2_, c16v2_, c17v2_, c0v1_, c1v1_, c2v1_, c3v1_, c4v1_, c5v1_, c6v1_, c7v1_, c8v1_, c9v1_, c10v1_, c11v1_, c12v1_, c13v1_, c14v1_, c15v1_, c16v1_, c17v1_, hi.2.1, hi.2.2.1, hi.2.2.2.1, hi.2.2.2.2.1, hi.2.2.2.2.2.1, hi.2.2.2.2.2.2.1, hi.2.2.2.2.2.2.2.1, hi.2.2.2.2.2.2.2.2.1, hi.2.2.2.2.2.2.2.2.2.1]
    exact ⟨q0_, q1_, q2_, q3_, q4_, q5_, q6_, q7_, q8_, zP1_k hi.2.2.2.2.2.2.2.2.2.2.1 (c0v2_.trans c0v1_) (zKc_t K1v1_ K1v2_) (zKm_t K3v1_ K3v2_), zP2_k hi.2.2.2.2.2.2.2.2.2.2.2.1 (c2v2_.trans c2v1_) (zKc_t K2v1_ K2v2_) (zKm_t K4v1_ K4v2_), zPT_k hi.2.2.2.2.2.2.2.2.2.2.2.2.1 T9v1_ T10v1_ T9v2_ T10v2_, zRr_k hi.2.2.2.2.2.2.2.2.2.2.2.2.2.1 (c8v2_.trans c8v1_) G1v1_ G3v1_ G1v2_ G3v2_, zRr_k hi.2.2.2.2.2.2.2.2.2.2.2.2.2.2.1 (c6v2_.trans c6v1_) G2v1_ G4v1_ G2v2_ G4v2_, zPH_k hi.2.2.2.2.2.2.2.2.2.2.2.2.2.2.2.1 A9v1_ A0v1_ A9v2_ A0v2_, zVe_k hi.2.2.2.2.2.2.2.2.2.2.2.2.2.2.2.2.1 (c0v2_.trans c0v1_) VSv1_ WSv1_ VSv2_ WSv2_, zVe_k hi.2.2.2.2.2.2.2.2.2.2.2.2.2.2.2.2.2.1 (c2v2_.trans c2v1_) VKv1_ WKv1_ VKv2_ WKv2_, zHW_d hi.1.1 hi.2.2.2.2.2.2.2.2.2.2.2.2.2.2.2.2.2.2 HBv1_ HDv1_ HBv2_ HDv2_⟩
  refine zr_pop C dL_law_628 rfl ?_
  refine zr_goto (tgt := 1337) C dL_law_629 (by decide) ?_
  exact kk M2_ ⟨iv2_, rv2_⟩
set_option maxRecDepth 10000 in
theorem zl_case_14 (htab : pvTab) {p : Program} {l : Launch} {e : Env} {s : State} {m : MethodId} {below : List Frame} {meth : Method} {c : Code} {b L : Nat} {xs : Nat → Int32} {D : va_G} {y : Nat → ClassId} {ad : Nat → Nat} {ls : Array Slot} {i : Int32} {Q : State → Prop} {M : pvM} (C : zLc p s m c b L xs D y ad ls i) (hi : zIR M) (kk : ∀ M1, zIR M1 → zLW p l e s m below meth c b D y ad ls Q 1337 [] M1) : zLW p l e s m below meth c b D y ad ls Q 632 [] M := by
  refine zr_x C dL_law_632 ?_
  refine zr_arg 1 C dL_law_633 dL_law_634 dL_law_635 dL_law_636 dL_law_637 (by decide) (by decide) ?_
  refine zr_call htab (j := 170) (n := 1) (q := 0) (as := [pvI (xs (i + 1).toNatClampNeg)]) (rest := []) C rfl rfl rfl rfl (lw_X9_best M hi.1 (xs (i + 1).toNatClampNeg)) (zgV zm_860 zm_861 zm_862 zm_2 zm_863) (by decide +kernel) rfl rfl rfl dL_law_638 rfl rfl (fun r M1_ h1_ => ?_)
  obtain ⟨⟨v1_, rfl⟩, iv1_, c0v1_, c1v1_, c2v1_, c3v1_, c4v1_, c5v1_, c6v1_, c7v1_, c8v1_, c9v1_, c10v1_, c11v1_, c12v1_, c13v1_, c14v1_, c15v1_, c16v1_, c17v1_, K1v1_, K2v1_, K3v1_, K4v1_, T9v1_, T10v1_, G1v1_, G2v1_, G3v1_, G4v1_, A9v1_, A0v1_, VSv1_, VKv1_, WSv1_, WKv1_, HBv1_, HDv1_⟩ := h1_
  refine zr_pop C dL_law_641 rfl ?_
  refine zr_m C dL_law_642 ?_
  refine zr_arg 1 C dL_law_643 dL_law_644 dL_law_645 dL_law_646 dL_law_647 (by decide) (by decide) ?_
  refine zr_call htab (j := 10) (n := 1) (q := 124) (as := [pvI (xs (i + 1).toNatClampNeg)]) (rest := []) C rfl rfl rfl rfl (lw_X10_best M1_ iv1_ (xs (i + 1).toNatClampNeg)) (zgV zm_899 zm_900 zm_901 zm_5 zm_902) (by decide +kernel) rfl rfl rfl dL_law_648 rfl rfl (fun r M2_ h2_ => ?_)
  obtain ⟨⟨v2_, rfl⟩, iv2_, c0v2_, c1v2_, c2v2_, c3v2_, c4v2_, c5v2_, c6v2_, c7v2_, c8v2_, c9v2_, c10v2_, c11v2_, c12v2_, c13v2_, c14v2_, c15v2_, c16v2_, c17v2_, K1v2_, K2v2_, K3v2_, K4v2_, T9v2_, T10v2_, G1v2_, G2v2_, G3v2_, G4v2_, A9v2_, A0v2_, VSv2_, VKv2_, WSv2_, WKv2_, HBv2_, HDv2_⟩ := h2_
  have rv2_ : zRl M2_ := by
    have q0_ : M2_.1 8 1 = M2_.1 124 0 := by simp only [c0v2_, c1v2_, c2v2_, c3v2_, c4v2_, c5v2_, c6v2_, c7v2_, c8v2_, c9v2_, c10v2_, c11v2_, c12v2_, c13v2_, c14v2_, c15v2_, c16v2_, c17v2_, c0v1_, c1v1_, c2v1_, c3v1_, c4v1_, c5v1_, c6v1_, c7v1_, c8v1_, c9v1_, c10v1_, c11v1_, c12v1_, c13v1_, c14v1_, c15v1_, c16v1_, c17v1_, hi.2.1, hi.2.2.1, hi.2.2.2.1, hi.2.2.2.2.1, hi.2.2.2.2.2.1, hi.2.2.2.2.2.2.1, hi.2.2.2.2.2.2.2.1, hi.2.2.2.2.2.2.2.2.1, hi.2.2.2.2.2.2.2.2.2.1]
    have q1_ : M2_.1 9 1 = M2_.1 124 48 := by simp only [c0v2_, c1v2_, c2v2_, c3v2_, c4v2_, c5v2_, c6v2_, c7v2_, c8v2_, c9v2_, c10v2_, c11v2_, c12v2_, c13v2_, c14v2_, c15v2_, c16v2_, c17v2_, c0v1_, c1v1_, c2v1_, c3v1_, c4v1_, c5v1_, c6v1_, c7v1_, c8v1_, c9v1_, c10v1_, c11v1_, c12v1_, c13v1_, c14v1_, c15v1_, c16v1_, c17v1_, hi.2.1, hi.2.2.1, hi.2.2.2.1, hi.2.2.2.2.1, hi.2.2.2.2.2.1, hi.2.2.2.2.2.2.1, hi.2.2.2.2.2.2.2.1, hi.2.2.2.2.2.2.2.2.1, hi.2.2.2.2.2.2.2.2.2.1]
    have q2_ : M2_.1 0 5 = M2_.1 124 46 := by simp only [c0v2_, c1v2_, c2v2_, c3v2_, c4v2_, c5v2_, c6v2_, c7v2_, c8v2_, c9v2_, c10v2_, c11v2_, c12v2_, c13v2_, c14v2_, c15v2_, c16v2_, c17v2_, c0v1_, c1v1_, c2v1_, c3v1_, c4v1_, c5v1_, c6v1_, c7v1_, c8v1_, c9v1_, c10v1_, c11v1_, c12v1_, c13v1_, c14v1_, c15v1_, c16v1_, c17v1_, hi.2.1, hi.2.2.1, hi.2.2.2.1, hi.2.2.2.2.1, hi.2.2.2.2.2.1, hi.2.2.2.2.2.2.1, hi.2.2.2.2.2.2.2.1, hi.2.2.2.2.2.2.2.2.1, hi.2.2.2.2.2.2.2.2.2.1]
    have q3_ : M2_.1 101 0 = M2_.1 124 55 := by simp only [c0v2_, c1v2_, c2v2_, c3v2_, c4v2_, c5v2_, c6v2_, c7v2_, c8v2_, c9v2_, c10v2_, c11v2_, c12v2_, c13v2_, c14v2_, c15v2_, c16v2_, c17v2_, c0v1_, c1v1_, c2v1_, c3v1_, c4v1_, c5v1_, c6v1_, c7v1_, c8v1_, c9v1_, c10v1_, c11v1_, c12v1_, c13v1_, c14v1_, c15v1_, c16v1_, c17v1_, hi.2.1, hi.2.2.1, hi.2.2.2.1, hi.2.2.2.2.1, hi.2.2.2.2.2.1, hi.2.2.2.2.2.2.1, hi.2.2.2.2.2.2.2.1, hi.2.2.2.2.2.2.2.2.1, hi.2.2.2.2.2.2.2.2.2.1]
    have q4_ : M2_.1 100 0 = M2_.1 124 37 := by simp only [c0v2_, c1v2_, c2v2_, c3v2_, c4v2_, c5v2_, c6v2_, c7v2_, c8v2_, c9v2_, c10v2_, c11v2_, c12v2_, c13v2_, c14v2_, c15v2_, c16v2_, c17v2_, c0v1_, c1v1_, c2v1_, c3v1_, c4v1_, c5v1_, c6v1_, c7v1_, c8v1_, c9v1_, c10v1_, c11v1_, c12v1_, c13v1_, c14v1_, c15v1_, c16v1_, c17v1_, hi.2.1, hi.2.2.1, hi.2.2.2.1, hi.2.2.2.2.1, hi.2.2.2.2.2.1, hi.2.2.2.2.2.2.1, hi.2.2.2.2.2.2.2.1, hi.2.2.2.2.2.2.2.2.1, hi.2.2.2.2.2.2.2.2.2.1]
    have q5_ : M2_.1 102 0 = M2_.1 124 40 := by simp only [c0v2_, c1v2_, c2v2_, c3v2_, c4v2_, c5v2_, c6v2_, c7v2_, c8v2_, c9v2_, c10v2_, c11v2_, c12v2_, c13v2_, c14v2_, c15v2_, c16v2_, c17v2_, c0v1_, c1v1_, c2v1_, c3v1_, c4v1_, c5v1_, c6v1_, c7v1_, c8v1_, c9v1_, c10v1_, c11v1_, c12v1_, c13v1_, c14v1_, c15v1_, c16v1_, c17v1_, hi.2.1, hi.2.2.1, hi.2.2.2.1, hi.2.2.2.2.1, hi.2.2.2.2.2.1, hi.2.2.2.2.2.2.1, hi.2.2.2.2.2.2.2.1, hi.2.2.2.2.2.2.2.2.1, hi.2.2.2.2.2.2.2.2.2.1]
    have q6_ : M2_.1 103 0 = M2_.1 124 56 := by simp only [c0v2_, c1v2_, c2v2_, c3v2_, c4v2_, c5v2_, c6v2_, c7v2_, c8v2_, c9v2_, c10v2_, c11v2_, c12v2_, c13v2_, c14v2_, c15v2_, c16v2_, c17v2_, c0v1_, c1v1_, c2v1_, c3v1_, c4v1_, c5v1_, c6v1_, c7v1_, c8v1_, c9v1_, c10v1_, c11v1_, c12v1_, c13v1_, c14v1_, c15v1_, c16v1_, c17v1_, hi.2.1, hi.2.2.1, hi.2.2.2.1, hi.2.2.2.2.1, hi.2.2.2.2.2.1, hi.2.2.2.2.2.2.1, hi.2.2.2.2.2.2.2.1, hi.2.2.2.2.2.2.2.2.1, hi.2.2.2.2.2.2.2.2.2.1]
    have q7_ : M2_.1 104 0 = M2_.1 124 43 := by simp only [c0v2_, c1v2_, c2v2_, c3v2_, c4v2_, c5v2_, c6v2_, c7v2_, c8v2_, c9v2_, c10v2_, c11v2_, c12v2_, c13v2_, c14v2_, c15v2_, c16v2_, c17v2_, c0v1_, c1v1_, c2v1_, c3v1_, c4v1_, c5v1_, c6v1_, c7v1_, c8v1_, c9v1_, c10v1_, c11v1_, c12v1_, c13v1_, c14v1_, c15v1_, c16v1_, c17v1_, hi.2.1, hi.2.2.1, hi.2.2.2.1, hi.2.2.2.2.1, hi.2.2.2.2.2.1, hi.2.2.2.2.2.2.1, hi.2.2.2.2.2.2.2.1, hi.2.2.2.2.2.2.2.2.1, hi.2.2.2.2.2.2.2.2.2.1]
    have q8_ : M2_.1 105 0 = M2_.1 124 57 := by simp only [c0v2_, c1v2_, c2v2_, c3v2_, c4v2_, c5v2_, c6v2_, c7v2_, c8v2_, c9v2_, c10v2_, c11v2_, c12v2_, c13v2_, c14v2_, c15v2_, c16v2_, c17v2_, c0v1_, c1v1_, c2v1_, c3v1_, c4v1_, c5v1_, c6v1_, c7v1_, c8v1_, c9v1_, c10v1_, c11v1_, c12v1_, c13v1_, c14v1_, c15v1_, c16v1_, c17v1_, hi.2.1, hi.2.2.1, hi.2.2.2.1, hi.2.2.2.2.1, hi.2.2.2.2.2.1, hi.2.2.2.2.2.2.1, hi.2.2.2.2.2.2.2.1, hi.2.2.2.2.2.2.2.2.1, hi.2.2.2.2.2.2.2.2.2.1]
    exact ⟨q0_, q1_, q2_, q3_, q4_, q5_, q6_, q7_, q8_, zP1_k hi.2.2.2.2.2.2.2.2.2.2.1 (c0v2_.trans c0v1_) (zKc_t K1v1_ K1v2_) (zKm_t K3v1_ K3v2_), zP2_k hi.2.2.2.2.2.2.2.2.2.2.2.1 (c2v2_.trans c2v1_) (zKc_t K2v1_ K2v2_) (zKm_t K4v1_ K4v2_), zPT_k hi.2.2.2.2.2.2.2.2.2.2.2.2.1 T9v1_ T10v1_ T9v2_ T10v2_, zRr_k hi.2.2.2.2.2.2.2.2.2.2.2.2.2.1 (c8v2_.trans c8v1_) G1v1_ G3v1_ G1v2_ G3v2_, zRr_k hi.2.2.2.2.2.2.2.2.2.2.2.2.2.2.1 (c6v2_.trans c6v1_) G2v1_ G4v1_ G2v2_ G4v2_, zPH_k hi.2.2.2.2.2.2.2.2.2.2.2.2.2.2.2.1 A9v1_ A0v1_ A9v2_ A0v2_, zVe_k hi.2.2.2.2.2.2.2.2.2.2.2.2.2.2.2.2.1 (c0v2_.trans c0v1_) VSv1_ WSv1_ VSv2_ WSv2_, zVe_k hi.2.2.2.2.2.2.2.2.2.2.2.2.2.2.2.2.2.1 (c2v2_.trans c2v1_) VKv1_ WKv1_ VKv2_ WKv2_, zHW_d hi.1.1 hi.2.2.2.2.2.2.2.2.2.2.2.2.2.2.2.2.2.2 HBv1_ HDv1_ HBv2_ HDv2_⟩
  refine zr_pop C dL_law_651 rfl ?_
  refine zr_goto (tgt := 1337) C dL_law_652 (by decide) ?_
  exact kk M2_ ⟨iv2_, rv2_⟩
set_option maxRecDepth 10000 in
theorem zl_case_15 (htab : pvTab) {p : Program} {l : Launch} {e : Env} {s : State} {m : MethodId} {below : List Frame} {meth : Method} {c : Code} {b L : Nat} {xs : Nat → Int32} {D : va_G} {y : Nat → ClassId} {ad : Nat → Nat} {ls : Array Slot} {i : Int32} {Q : State → Prop} {M : pvM} (C : zLc p s m c b L xs D y ad ls i) (hi : zIR M) (kk : ∀ M1, zIR M1 → zLW p l e s m below meth c b D y ad ls Q 1337 [] M1) : zLW p l e s m below meth c b D y ad ls Q 655 [] M := by
  refine zr_x C dL_law_655 ?_
  refine zr_call htab (j := 187) (n := 0) (q := 0) (as := []) (rest := []) C rfl rfl rfl rfl (lw_X9_next M hi.1) (zgV zm_911 zm_912 zm_913 zm_2 zm_914) (by decide +kernel) rfl rfl rfl dL_law_656 rfl rfl (fun r M1_ h1_ => ?_)
  obtain ⟨⟨v1_, rfl⟩, iv1_, c0v1_, c1v1_, c2v1_, c3v1_, c4v1_, c5v1_, c6v1_, c7v1_, c8v1_, c9v1_, c10v1_, c11v1_, c12v1_, c13v1_, c14v1_, c15v1_, c16v1_, c17v1_, K1v1_, K2v1_, K3v1_, K4v1_, T9v1_, T10v1_, G1v1_, G2v1_, G3v1_, G4v1_, A9v1_, A0v1_, VSv1_, VKv1_, WSv1_, WKv1_, HBv1_, HDv1_⟩ := h1_
  refine zr_pop C dL_law_659 rfl ?_
  refine zr_m C dL_law_660 ?_
  refine zr_call htab (j := 57) (n := 0) (q := 124) (as := []) (rest := []) C rfl rfl rfl rfl (lw_X10_next M1_ iv1_) (zgV zm_919 zm_920 zm_921 zm_5 zm_922) (by decide +kernel) rfl rfl rfl dL_law_661 rfl rfl (fun r M2_ h2_ => ?_)
  obtain ⟨⟨v2_, rfl⟩, iv2_, c0v2_, c1v2_, c2v2_, c3v2_, c4v2_, c5v2_, c6v2_, c7v2_, c8v2_, c9v2_, c10v2_, c11v2_, c12v2_, c13v2_, c14v2_, c15v2_, c16v2_, c17v2_, K1v2_, K2v2_, K3v2_, K4v2_, T9v2_, T10v2_, G1v2_, G2v2_, G3v2_, G4v2_, A9v2_, A0v2_, VSv2_, VKv2_, WSv2_, WKv2_, HBv2_, HDv2_⟩ := h2_
  have rv2_ : zRl M2_ := by
    have q0_ : M2_.1 8 1 = M2_.1 124 0 := by simp only [c0v2_, c1v2_, c2v2_, c3v2_, c4v2_, c5v2_, c6v2_, c7v2_, c8v2_, c9v2_, c10v2_, c11v2_, c12v2_, c13v2_, c14v2_, c15v2_, c16v2_, c17v2_, c0v1_, c1v1_, c2v1_, c3v1_, c4v1_, c5v1_, c6v1_, c7v1_, c8v1_, c9v1_, c10v1_, c11v1_, c12v1_, c13v1_, c14v1_, c15v1_, c16v1_, c17v1_, hi.2.1, hi.2.2.1, hi.2.2.2.1, hi.2.2.2.2.1, hi.2.2.2.2.2.1, hi.2.2.2.2.2.2.1, hi.2.2.2.2.2.2.2.1, hi.2.2.2.2.2.2.2.2.1, hi.2.2.2.2.2.2.2.2.2.1]
    have q1_ : M2_.1 9 1 = M2_.1 124 48 := by simp only [c0v2_, c1v2_, c2v2_, c3v2_, c4v2_, c5v2_, c6v2_, c7v2_, c8v2_, c9v2_, c10v2_, c11v2_, c12v2_, c13v2_, c14v2_, c15v2_, c16v2_, c17v2_, c0v1_, c1v1_, c2v1_, c3v1_, c4v1_, c5v1_, c6v1_, c7v1_, c8v1_, c9v1_, c10v1_, c11v1_, c12v1_, c13v1_, c14v1_, c15v1_, c16v1_, c17v1_, hi.2.1, hi.2.2.1, hi.2.2.2.1, hi.2.2.2.2.1, hi.2.2.2.2.2.1, hi.2.2.2.2.2.2.1, hi.2.2.2.2.2.2.2.1, hi.2.2.2.2.2.2.2.2.1, hi.2.2.2.2.2.2.2.2.2.1]
    have q2_ : M2_.1 0 5 = M2_.1 124 46 := by simp only [c0v2_, c1v2_, c2v2_, c3v2_, c4v2_, c5v2_, c6v2_, c7v2_, c8v2_, c9v2_, c10v2_, c11v2_, c12v2_, c13v2_, c14v2_, c15v2_, c16v2_, c17v2_, c0v1_, c1v1_, c2v1_, c3v1_, c4v1_, c5v1_, c6v1_, c7v1_, c8v1_, c9v1_, c10v1_, c11v1_, c12v1_, c13v1_, c14v1_, c15v1_, c16v1_, c17v1_, hi.2.1, hi.2.2.1, hi.2.2.2.1, hi.2.2.2.2.1, hi.2.2.2.2.2.1, hi.2.2.2.2.2.2.1, hi.2.2.2.2.2.2.2.1, hi.2.2.2.2.2.2.2.2.1, hi.2.2.2.2.2.2.2.2.2.1]
    have q3_ : M2_.1 101 0 = M2_.1 124 55 := by simp only [c0v2_, c1v2_, c2v2_, c3v2_, c4v2_, c5v2_, c6v2_, c7v2_, c8v2_, c9v2_, c10v2_, c11v2_, c12v2_, c13v2_, c14v2_, c15v2_, c16v2_, c17v2_, c0v1_, c1v1_, c2v1_, c3v1_, c4v1_, c5v1_, c6v1_, c7v1_, c8v1_, c9v1_, c10v1_, c11v1_, c12v1_, c13v1_, c14v1_, c15v1_, c16v1_, c17v1_, hi.2.1, hi.2.2.1, hi.2.2.2.1, hi.2.2.2.2.1, hi.2.2.2.2.2.1, hi.2.2.2.2.2.2.1, hi.2.2.2.2.2.2.2.1, hi.2.2.2.2.2.2.2.2.1, hi.2.2.2.2.2.2.2.2.2.1]
    have q4_ : M2_.1 100 0 = M2_.1 124 37 := by simp only [c0v2_, c1v2_, c2v2_, c3v2_, c4v2_, c5v2_, c6v2_, c7v2_, c8v2_, c9v2_, c10v2_, c11v2_, c12v2_, c13v2_, c14v2_, c15v2_, c16v2_, c17v2_, c0v1_, c1v1_, c2v1_, c3v1_, c4v1_, c5v1_, c6v1_, c7v1_, c8v1_, c9v1_, c10v1_, c11v1_, c12v1_, c13v1_, c14v1_, c15v1_, c16v1_, c17v1_, hi.2.1, hi.2.2.1, hi.2.2.2.1, hi.2.2.2.2.1, hi.2.2.2.2.2.1, hi.2.2.2.2.2.2.1, hi.2.2.2.2.2.2.2.1, hi.2.2.2.2.2.2.2.2.1, hi.2.2.2.2.2.2.2.2.2.1]
    have q5_ : M2_.1 102 0 = M2_.1 124 40 := by simp only [c0v2_, c1v2_, c2v2_, c3v2_, c4v2_, c5v2_, c6v2_, c7v2_, c8v2_, c9v2_, c10v2_, c11v2_, c12v2_, c13v2_, c14v2_, c15v2_, c16v2_, c17v2_, c0v1_, c1v1_, c2v1_, c3v1_, c4v1_, c5v1_, c6v1_, c7v1_, c8v1_, c9v1_, c10v1_, c11v1_, c12v1_, c13v1_, c14v1_, c15v1_, c16v1_, c17v1_, hi.2.1, hi.2.2.1, hi.2.2.2.1, hi.2.2.2.2.1, hi.2.2.2.2.2.1, hi.2.2.2.2.2.2.1, hi.2.2.2.2.2.2.2.1, hi.2.2.2.2.2.2.2.2.1, hi.2.2.2.2.2.2.2.2.2.1]
    have q6_ : M2_.1 103 0 = M2_.1 124 56 := by simp only [c0v2_, c1v2_, c2v2_, c3v2_, c4v2_, c5v2_, c6v2_, c7v2_, c8v2_, c9v2_, c10v2_, c11v2_, c12v2_, c13v2_, c14v2_, c15v2_, c16v2_, c17v2_, c0v1_, c1v1_, c2v1_, c3v1_, c4v1_, c5v1_, c6v1_, c7v1_, c8v1_, c9v1_, c10v1_, c11v1_, c12v1_, c13v1_, c14v1_, c15v1_, c16v1_, c17v1_, hi.2.1, hi.2.2.1, hi.2.2.2.1, hi.2.2.2.2.1, hi.2.2.2.2.2.1, hi.2.2.2.2.2.2.1, hi.2.2.2.2.2.2.2.1, hi.2.2.2.2.2.2.2.2.1, hi.2.2.2.2.2.2.2.2.2.1]
    have q7_ : M2_.1 104 0 = M2_.1 124 43 := by simp only [c0v2_, c1v2_, c2v2_, c3v2_, c4v2_, c5v2_, c6v2_, c7v2_, c8v2_, c9v2_, c10v2_, c11v2_, c12v2_, c13v2_, c14v2_, c15v2_, c16v2_, c17v2_, c0v1_, c1v1_, c2v1_, c3v1_, c4v1_, c5v1_, c6v1_, c7v1_, c8v1_, c9v1_, c10v1_, c11v1_, c12v1_, c13v1_, c14v1_, c15v1_, c16v1_, c17v1_, hi.2.1, hi.2.2.1, hi.2.2.2.1, hi.2.2.2.2.1, hi.2.2.2.2.2.1, hi.2.2.2.2.2.2.1, hi.2.2.2.2.2.2.2.1, hi.2.2.2.2.2.2.2.2.1, hi.2.2.2.2.2.2.2.2.2.1]
    have q8_ : M2_.1 105 0 = M2_.1 124 57 := by simp only [c0v2_, c1v2_, c2v2_, c3v2_, c4v2_, c5v2_, c6v2_, c7v2_, c8v2_, c9v2_, c10v2_, c11v2_, c12v2_, c13v2_, c14v2_, c15v2_, c16v2_, c17v2_, c0v1_, c1v1_, c2v1_, c3v1_, c4v1_, c5v1_, c6v1_, c7v1_, c8v1_, c9v1_, c10v1_, c11v1_, c12v1_, c13v1_, c14v1_, c15v1_, c16v1_, c17v1_, hi.2.1, hi.2.2.1, hi.2.2.2.1, hi.2.2.2.2.1, hi.2.2.2.2.2.1, hi.2.2.2.2.2.2.1, hi.2.2.2.2.2.2.2.1, hi.2.2.2.2.2.2.2.2.1, hi.2.2.2.2.2.2.2.2.2.1]
    exact ⟨q0_, q1_, q2_, q3_, q4_, q5_, q6_, q7_, q8_, zP1_k hi.2.2.2.2.2.2.2.2.2.2.1 (c0v2_.trans c0v1_) (zKc_t K1v1_ K1v2_) (zKm_t K3v1_ K3v2_), zP2_k hi.2.2.2.2.2.2.2.2.2.2.2.1 (c2v2_.trans c2v1_) (zKc_t K2v1_ K2v2_) (zKm_t K4v1_ K4v2_), zPT_k hi.2.2.2.2.2.2.2.2.2.2.2.2.1 T9v1_ T10v1_ T9v2_ T10v2_, zRr_k hi.2.2.2.2.2.2.2.2.2.2.2.2.2.1 (c8v2_.trans c8v1_) G1v1_ G3v1_ G1v2_ G3v2_, zRr_k hi.2.2.2.2.2.2.2.2.2.2.2.2.2.2.1 (c6v2_.trans c6v1_) G2v1_ G4v1_ G2v2_ G4v2_, zPH_k hi.2.2.2.2.2.2.2.2.2.2.2.2.2.2.2.1 A9v1_ A0v1_ A9v2_ A0v2_, zVe_k hi.2.2.2.2.2.2.2.2.2.2.2.2.2.2.2.2.1 (c0v2_.trans c0v1_) VSv1_ WSv1_ VSv2_ WSv2_, zVe_k hi.2.2.2.2.2.2.2.2.2.2.2.2.2.2.2.2.2.1 (c2v2_.trans c2v1_) VKv1_ WKv1_ VKv2_ WKv2_, zHW_d hi.1.1 hi.2.2.2.2.2.2.2.2.2.2.2.2.2.2.2.2.2.2 HBv1_ HDv1_ HBv2_ HDv2_⟩
  refine zr_pop C dL_law_664 rfl ?_
  refine zr_goto (tgt := 1337) C dL_law_665 (by decide) ?_
  exact kk M2_ ⟨iv2_, rv2_⟩
set_option maxRecDepth 10000 in
theorem zl_case_16 (htab : pvTab) {p : Program} {l : Launch} {e : Env} {s : State} {m : MethodId} {below : List Frame} {meth : Method} {c : Code} {b L : Nat} {xs : Nat → Int32} {D : va_G} {y : Nat → ClassId} {ad : Nat → Nat} {ls : Array Slot} {i : Int32} {Q : State → Prop} {M : pvM} (C : zLc p s m c b L xs D y ad ls i) (hi : zIR M) (kk : ∀ M1, zIR M1 → zLW p l e s m below meth c b D y ad ls Q 1337 [] M1) : zLW p l e s m below meth c b D y ad ls Q 668 [] M := by
  refine zr_x C dL_law_668 ?_
  refine zr_arg 1 C dL_law_669 dL_law_670 dL_law_671 dL_law_672 dL_law_673 (by decide) (by decide) ?_
  refine zr_call htab (j := 183) (n := 1) (q := 0) (as := [pvI (xs (i + 1).toNatClampNeg)]) (rest := []) C rfl rfl rfl rfl (lw_X9_late M hi.1 (xs (i + 1).toNatClampNeg)) (zgV zm_923 zm_924 zm_925 zm_2 zm_926) (by decide +kernel) rfl rfl rfl dL_law_674 rfl rfl (fun r M1_ h1_ => ?_)
  obtain ⟨⟨v1_, rfl⟩, iv1_, c0v1_, c1v1_, c2v1_, c3v1_, c4v1_, c5v1_, c6v1_, c7v1_, c8v1_, c9v1_, c10v1_, c11v1_, c12v1_, c13v1_, c14v1_, c15v1_, c16v1_, c17v1_, K1v1_, K2v1_, K3v1_, K4v1_, T9v1_, T10v1_, G1v1_, G2v1_, G3v1_, G4v1_, A9v1_, A0v1_, VSv1_, VKv1_, WSv1_, WKv1_, HBv1_, HDv1_⟩ := h1_
  refine zr_pop C dL_law_677 rfl ?_
  refine zr_m C dL_law_678 ?_
  refine zr_arg 1 C dL_law_679 dL_law_680 dL_law_681 dL_law_682 dL_law_683 (by decide) (by decide) ?_
  refine zr_call htab (j := 47) (n := 1) (q := 124) (as := [pvI (xs (i + 1).toNatClampNeg)]) (rest := []) C rfl rfl rfl rfl (lw_X10_late M1_ iv1_ (xs (i + 1).toNatClampNeg)) (zgV zm_933 zm_934 zm_935 zm_5 zm_936) (by decide +kernel) rfl rfl rfl dL_law_684 rfl rfl (fun r M2_ h2_ => ?_)
  obtain ⟨⟨v2_, rfl⟩, iv2_, c0v2_, c1v2_, c2v2_, c3v2_, c4v2_, c5v2_, c6v2_, c7v2_, c8v2_, c9v2_, c10v2_, c11v2_, c12v2_, c13v2_, c14v2_, c15v2_, c16v2_, c17v2_, K1v2_, K2v2_, K3v2_, K4v2_, T9v2_, T10v2_, G1v2_, G2v2_, G3v2_, G4v2_, A9v2_, A0v2_, VSv2_, VKv2_, WSv2_, WKv2_, HBv2_, HDv2_⟩ := h2_
  have rv2_ : zRl M2_ := by
    have q0_ : M2_.1 8 1 = M2_.1 124 0 := by simp only [c0v2_, c1v2_, c2v2_, c3v2_, c4v2_, c5v2_, c6v2_, c7v2_, c8v2_, c9v2_, c10v2_, c11v2_, c12v2_, c13v2_, c14v2_, c15v2_, c16v2_, c17v2_, c0v1_, c1v1_, c2v1_, c3v1_, c4v1_, c5v1_, c6v1_, c7v1_, c8v1_, c9v1_, c10v1_, c11v1_, c12v1_, c13v1_, c14v1_, c15v1_, c16v1_, c17v1_, hi.2.1, hi.2.2.1, hi.2.2.2.1, hi.2.2.2.2.1, hi.2.2.2.2.2.1, hi.2.2.2.2.2.2.1, hi.2.2.2.2.2.2.2.1, hi.2.2.2.2.2.2.2.2.1, hi.2.2.2.2.2.2.2.2.2.1]
    have q1_ : M2_.1 9 1 = M2_.1 124 48 := by simp only [c0v2_, c1v2_, c2v2_, c3v2_, c4v2_, c5v2_, c6v2_, c7v2_, c8v2_, c9v2_, c10v2_, c11v2_, c12v2_, c13v2_, c14v2_, c15v2_, c16v2_, c17v2_, c0v1_, c1v1_, c2v1_, c3v1_, c4v1_, c5v1_, c6v1_, c7v1_, c8v1_, c9v1_, c10v1_, c11v1_, c12v1_, c13v1_, c14v1_, c15v1_, c16v1_, c17v1_, hi.2.1, hi.2.2.1, hi.2.2.2.1, hi.2.2.2.2.1, hi.2.2.2.2.2.1, hi.2.2.2.2.2.2.1, hi.2.2.2.2.2.2.2.1, hi.2.2.2.2.2.2.2.2.1, hi.2.2.2.2.2.2.2.2.2.1]
    have q2_ : M2_.1 0 5 = M2_.1 124 46 := by simp only [c0v2_, c1v2_, c2v2_, c3v2_, c4v2_, c5v2_, c6v2_, c7v2_, c8v2_, c9v2_, c10v2_, c11v2_, c12v2_, c13v2_, c14v2_, c15v2_, c16v2_, c17v2_, c0v1_, c1v1_, c2v1_, c3v1_, c4v1_, c5v1_, c6v1_, c7v1_, c8v1_, c9v1_, c10v1_, c11v1_, c12v1_, c13v1_, c14v1_, c15v1_, c16v1_, c17v1_, hi.2.1, hi.2.2.1, hi.2.2.2.1, hi.2.2.2.2.1, hi.2.2.2.2.2.1, hi.2.2.2.2.2.2.1, hi.2.2.2.2.2.2.2.1, hi.2.2.2.2.2.2.2.2.1, hi.2.2.2.2.2.2.2.2.2.1]
    have q3_ : M2_.1 101 0 = M2_.1 124 55 := by simp only [c0v2_, c1v2_, c2v2_, c3v2_, c4v2_, c5v2_, c6v2_, c7v2_, c8v2_, c9v2_, c10v2_, c11v2_, c12v2_, c13v2_, c14v2_, c15v2_, c16v2_, c17v2_, c0v1_, c1v1_, c2v1_, c3v1_, c4v1_, c5v1_, c6v1_, c7v1_, c8v1_, c9v1_, c10v1_, c11v1_, c12v1_, c13v1_, c14v1_, c15v1_, c16v1_, c17v1_, hi.2.1, hi.2.2.1, hi.2.2.2.1, hi.2.2.2.2.1, hi.2.2.2.2.2.1, hi.2.2.2.2.2.2.1, hi.2.2.2.2.2.2.2.1, hi.2.2.2.2.2.2.2.2.1, hi.2.2.2.2.2.2.2.2.2.1]
    have q4_ : M2_.1 100 0 = M2_.1 124 37 := by simp only [c0v2_, c1v2_, c2v2_, c3v2_, c4v2_, c5v2_, c6v2_, c7v2_, c8v2_, c9v2_, c10v2_, c11v2_, c12v2_, c13v2_, c14v2_, c15v2_, c16v2_, c17v2_, c0v1_, c1v1_, c2v1_, c3v1_, c4v1_, c5v1_, c6v1_, c7v1_, c8v1_, c9v1_, c10v1_, c11v1_, c12v1_, c13v1_, c14v1_, c15v1_, c16v1_, c17v1_, hi.2.1, hi.2.2.1, hi.2.2.2.1, hi.2.2.2.2.1, hi.2.2.2.2.2.1, hi.2.2.2.2.2.2.1, hi.2.2.2.2.2.2.2.1, hi.2.2.2.2.2.2.2.2.1, hi.2.2.2.2.2.2.2.2.2.1]
    have q5_ : M2_.1 102 0 = M2_.1 124 40 := by simp only [c0v2_, c1v2_, c2v2_, c3v2_, c4v2_, c5v2_, c6v2_, c7v2_, c8v2_, c9v2_, c10v2_, c11v2_, c12v2_, c13v2_, c14v2_, c15v2_, c16v2_, c17v2_, c0v1_, c1v1_, c2v1_, c3v1_, c4v1_, c5v1_, c6v1_, c7v1_, c8v1_, c9v1_, c10v1_, c11v1_, c12v1_, c13v1_, c14v1_, c15v1_, c16v1_, c17v1_, hi.2.1, hi.2.2.1, hi.2.2.2.1, hi.2.2.2.2.1, hi.2.2.2.2.2.1, hi.2.2.2.2.2.2.1, hi.2.2.2.2.2.2.2.1, hi.2.2.2.2.2.2.2.2.1, hi.2.2.2.2.2.2.2.2.2.1]
    have q6_ : M2_.1 103 0 = M2_.1 124 56 := by simp only [c0v2_, c1v2_, c2v2_, c3v2_, c4v2_, c5v2_, c6v2_, c7v2_, c8v2_, c9v2_, c10v2_, c11v2_, c12v2_, c13v2_, c14v2_, c15v2_, c16v2_, c17v2_, c0v1_, c1v1_, c2v1_, c3v1_, c4v1_, c5v1_, c6v1_, c7v1_, c8v1_, c9v1_, c10v1_, c11v1_, c12v1_, c13v1_, c14v1_, c15v1_, c16v1_, c17v1_, hi.2.1, hi.2.2.1, hi.2.2.2.1, hi.2.2.2.2.1, hi.2.2.2.2.2.1, hi.2.2.2.2.2.2.1, hi.2.2.2.2.2.2.2.1, hi.2.2.2.2.2.2.2.2.1, hi.2.2.2.2.2.2.2.2.2.1]
    have q7_ : M2_.1 104 0 = M2_.1 124 43 := by simp only [c0v2_, c1v2_, c2v2_, c3v2_, c4v2_, c5v2_, c6v2_, c7v2_, c8v2_, c9v2_, c10v2_, c11v2_, c12v2_, c13v2_, c14v2_, c15v2_, c16v2_, c17v2_, c0v1_, c1v1_, c2v1_, c3v1_, c4v1_, c5v1_, c6v1_, c7v1_, c8v1_, c9v1_, c10v1_, c11v1_, c12v1_, c13v1_, c14v1_, c15v1_, c16v1_, c17v1_, hi.2.1, hi.2.2.1, hi.2.2.2.1, hi.2.2.2.2.1, hi.2.2.2.2.2.1, hi.2.2.2.2.2.2.1, hi.2.2.2.2.2.2.2.1, hi.2.2.2.2.2.2.2.2.1, hi.2.2.2.2.2.2.2.2.2.1]
    have q8_ : M2_.1 105 0 = M2_.1 124 57 := by simp only [c0v2_, c1v2_, c2v2_, c3v2_, c4v2_, c5v2_, c6v2_, c7v2_, c8v2_, c9v2_, c10v2_, c11v2_, c12v2_, c13v2_, c14v2_, c15v2_, c16v2_, c17v2_, c0v1_, c1v1_, c2v1_, c3v1_, c4v1_, c5v1_, c6v1_, c7v1_, c8v1_, c9v1_, c10v1_, c11v1_, c12v1_, c13v1_, c14v1_, c15v1_, c16v1_, c17v1_, hi.2.1, hi.2.2.1, hi.2.2.2.1, hi.2.2.2.2.1, hi.2.2.2.2.2.1, hi.2.2.2.2.2.2.1, hi.2.2.2.2.2.2.2.1, hi.2.2.2.2.2.2.2.2.1, hi.2.2.2.2.2.2.2.2.2.1]
    exact ⟨q0_, q1_, q2_, q3_, q4_, q5_, q6_, q7_, q8_, zP1_k hi.2.2.2.2.2.2.2.2.2.2.1 (c0v2_.trans c0v1_) (zKc_t K1v1_ K1v2_) (zKm_t K3v1_ K3v2_), zP2_k hi.2.2.2.2.2.2.2.2.2.2.2.1 (c2v2_.trans c2v1_) (zKc_t K2v1_ K2v2_) (zKm_t K4v1_ K4v2_), zPT_k hi.2.2.2.2.2.2.2.2.2.2.2.2.1 T9v1_ T10v1_ T9v2_ T10v2_, zRr_k hi.2.2.2.2.2.2.2.2.2.2.2.2.2.1 (c8v2_.trans c8v1_) G1v1_ G3v1_ G1v2_ G3v2_, zRr_k hi.2.2.2.2.2.2.2.2.2.2.2.2.2.2.1 (c6v2_.trans c6v1_) G2v1_ G4v1_ G2v2_ G4v2_, zPH_k hi.2.2.2.2.2.2.2.2.2.2.2.2.2.2.2.1 A9v1_ A0v1_ A9v2_ A0v2_, zVe_k hi.2.2.2.2.2.2.2.2.2.2.2.2.2.2.2.2.1 (c0v2_.trans c0v1_) VSv1_ WSv1_ VSv2_ WSv2_, zVe_k hi.2.2.2.2.2.2.2.2.2.2.2.2.2.2.2.2.2.1 (c2v2_.trans c2v1_) VKv1_ WKv1_ VKv2_ WKv2_, zHW_d hi.1.1 hi.2.2.2.2.2.2.2.2.2.2.2.2.2.2.2.2.2.2 HBv1_ HDv1_ HBv2_ HDv2_⟩
  refine zr_pop C dL_law_687 rfl ?_
  refine zr_goto (tgt := 1337) C dL_law_688 (by decide) ?_
  exact kk M2_ ⟨iv2_, rv2_⟩
set_option maxRecDepth 10000 in
theorem zl_case_17 (htab : pvTab) {p : Program} {l : Launch} {e : Env} {s : State} {m : MethodId} {below : List Frame} {meth : Method} {c : Code} {b L : Nat} {xs : Nat → Int32} {D : va_G} {y : Nat → ClassId} {ad : Nat → Nat} {ls : Array Slot} {i : Int32} {Q : State → Prop} {M : pvM} (C : zLc p s m c b L xs D y ad ls i) (hi : zIR M) (kk : ∀ M1, zIR M1 → zLW p l e s m below meth c b D y ad ls Q 1337 [] M1) : zLW p l e s m below meth c b D y ad ls Q 691 [] M := by
  refine zr_x C dL_law_691 ?_
  refine zr_call htab (j := 184) (n := 0) (q := 0) (as := []) (rest := []) C rfl rfl rfl rfl (lw_X9_leave M hi.1) (zgV zm_941 zm_942 zm_943 zm_2 zm_944) (by decide +kernel) rfl rfl rfl dL_law_692 rfl rfl (fun r M1_ h1_ => ?_)
  obtain ⟨⟨v1_, rfl⟩, iv1_, c0v1_, c1v1_, c2v1_, c3v1_, c4v1_, c5v1_, c6v1_, c7v1_, c8v1_, c9v1_, c10v1_, c11v1_, c12v1_, c13v1_, c14v1_, c15v1_, c16v1_, c17v1_, K1v1_, K2v1_, K3v1_, K4v1_, T9v1_, T10v1_, G1v1_, G2v1_, G3v1_, G4v1_, A9v1_, A0v1_, VSv1_, VKv1_, WSv1_, WKv1_, HBv1_, HDv1_⟩ := h1_
  refine zr_pop C dL_law_695 rfl ?_
  refine zr_m C dL_law_696 ?_
  refine zr_call htab (j := 52) (n := 0) (q := 124) (as := []) (rest := []) C rfl rfl rfl rfl (lw_X10_leave M1_ iv1_) (zgV zm_950 zm_951 zm_952 zm_5 zm_953) (by decide +kernel) rfl rfl rfl dL_law_697 rfl rfl (fun r M2_ h2_ => ?_)
  obtain ⟨⟨v2_, rfl⟩, iv2_, c0v2_, c1v2_, c2v2_, c3v2_, c4v2_, c5v2_, c6v2_, c7v2_, c8v2_, c9v2_, c10v2_, c11v2_, c12v2_, c13v2_, c14v2_, c15v2_, c16v2_, c17v2_, K1v2_, K2v2_, K3v2_, K4v2_, T9v2_, T10v2_, G1v2_, G2v2_, G3v2_, G4v2_, A9v2_, A0v2_, VSv2_, VKv2_, WSv2_, WKv2_, HBv2_, HDv2_⟩ := h2_
  have rv2_ : zRl M2_ := by
    have q0_ : M2_.1 8 1 = M2_.1 124 0 := by simp only [c0v2_, c1v2_, c2v2_, c3v2_, c4v2_, c5v2_, c6v2_, c7v2_, c8v2_, c9v2_, c10v2_, c11v2_, c12v2_, c13v2_, c14v2_, c15v2_, c16v2_, c17v2_, c0v1_, c1v1_, c2v1_, c3v1_, c4v1_, c5v1_, c6v1_, c7v1_, c8v1_, c9v1_, c10v1_, c11v1_, c12v1_, c13v1_, c14v1_, c15v1_, c16v1_, c17v1_, hi.2.1, hi.2.2.1, hi.2.2.2.1, hi.2.2.2.2.1, hi.2.2.2.2.2.1, hi.2.2.2.2.2.2.1, hi.2.2.2.2.2.2.2.1, hi.2.2.2.2.2.2.2.2.1, hi.2.2.2.2.2.2.2.2.2.1]
    have q1_ : M2_.1 9 1 = M2_.1 124 48 := by simp only [c0v2_, c1v2_, c2v2_, c3v2_, c4v2_, c5v2_, c6v2_, c7v2_, c8v2_, c9v2_, c10v2_, c11v2_, c12v2_, c13v2_, c14v2_, c15v2_, c16v2_, c17v2_, c0v1_, c1v1_, c2v1_, c3v1_, c4v1_, c5v1_, c6v1_, c7v1_, c8v1_, c9v1_, c10v1_, c11v1_, c12v1_, c13v1_, c14v1_, c15v1_, c16v1_, c17v1_, hi.2.1, hi.2.2.1, hi.2.2.2.1, hi.2.2.2.2.1, hi.2.2.2.2.2.1, hi.2.2.2.2.2.2.1, hi.2.2.2.2.2.2.2.1, hi.2.2.2.2.2.2.2.2.1, hi.2.2.2.2.2.2.2.2.2.1]
    have q2_ : M2_.1 0 5 = M2_.1 124 46 := by simp only [c0v2_, c1v2_, c2v2_, c3v2_, c4v2_, c5v2_, c6v2_, c7v2_, c8v2_, c9v2_, c10v2_, c11v2_, c12v2_, c13v2_, c14v2_, c15v2_, c16v2_, c17v2_, c0v1_, c1v1_, c2v1_, c3v1_, c4v1_, c5v1_, c6v1_, c7v1_, c8v1_, c9v1_, c10v1_, c11v1_, c12v1_, c13v1_, c14v1_, c15v1_, c16v1_, c17v1_, hi.2.1, hi.2.2.1, hi.2.2.2.1, hi.2.2.2.2.1, hi.2.2.2.2.2.1, hi.2.2.2.2.2.2.1, hi.2.2.2.2.2.2.2.1, hi.2.2.2.2.2.2.2.2.1, hi.2.2.2.2.2.2.2.2.2.1]
    have q3_ : M2_.1 101 0 = M2_.1 124 55 := by simp only [c0v2_, c1v2_, c2v2_, c3v2_, c4v2_, c5v2_, c6v2_, c7v2_, c8v2_, c9v2_, c10v2_, c11v2_, c12v2_, c13v2_, c14v2_, c15v2_, c16v2_, c17v2_, c0v1_, c1v1_, c2v1_, c3v1_, c4v1_, c5v1_, c6v1_, c7v1_, c8v1_, c9v1_, c10v1_, c11v1_, c12v1_, c13v1_, c14v1_, c15v1_, c16v1_, c17v1_, hi.2.1, hi.2.2.1, hi.2.2.2.1, hi.2.2.2.2.1, hi.2.2.2.2.2.1, hi.2.2.2.2.2.2.1, hi.2.2.2.2.2.2.2.1, hi.2.2.2.2.2.2.2.2.1, hi.2.2.2.2.2.2.2.2.2.1]
    have q4_ : M2_.1 100 0 = M2_.1 124 37 := by simp only [c0v2_, c1v2_, c2v2_, c3v2_, c4v2_, c5v2_, c6v2_, c7v2_, c8v2_, c9v2_, c10v2_, c11v2_, c12v2_, c13v2_, c14v2_, c15v2_, c16v2_, c17v2_, c0v1_, c1v1_, c2v1_, c3v1_, c4v1_, c5v1_, c6v1_, c7v1_, c8v1_, c9v1_, c10v1_, c11v1_, c12v1_, c13v1_, c14v1_, c15v1_, c16v1_, c17v1_, hi.2.1, hi.2.2.1, hi.2.2.2.1, hi.2.2.2.2.1, hi.2.2.2.2.2.1, hi.2.2.2.2.2.2.1, hi.2.2.2.2.2.2.2.1, hi.2.2.2.2.2.2.2.2.1, hi.2.2.2.2.2.2.2.2.2.1]
    have q5_ : M2_.1 102 0 = M2_.1 124 40 := by simp only [c0v2_, c1v2_, c2v2_, c3v2_, c4v2_, c5v2_, c6v2_, c7v2_, c8v2_, c9v2_, c10v2_, c11v2_, c12v2_, c13v2_, c14v2_, c15v2_, c16v2_, c17v2_, c0v1_, c1v1_, c2v1_, c3v1_, c4v1_, c5v1_, c6v1_, c7v1_, c8v1_, c9v1_, c10v1_, c11v1_, c12v1_, c13v1_, c14v1_, c15v1_, c16v1_, c17v1_, hi.2.1, hi.2.2.1, hi.2.2.2.1, hi.2.2.2.2.1, hi.2.2.2.2.2.1, hi.2.2.2.2.2.2.1, hi.2.2.2.2.2.2.2.1, hi.2.2.2.2.2.2.2.2.1, hi.2.2.2.2.2.2.2.2.2.1]
    have q6_ : M2_.1 103 0 = M2_.1 124 56 := by simp only [c0v2_, c1v2_, c2v2_, c3v2_, c4v2_, c5v2_, c6v2_, c7v2_, c8v2_, c9v2_, c10v2_, c11v2_, c12v2_, c13v2_, c14v2_, c15v2_, c16v2_, c17v2_, c0v1_, c1v1_, c2v1_, c3v1_, c4v1_, c5v1_, c6v1_, c7v1_, c8v1_, c9v1_, c10v1_, c11v1_, c12v1_, c13v1_, c14v1_, c15v1_, c16v1_, c17v1_, hi.2.1, hi.2.2.1, hi.2.2.2.1, hi.2.2.2.2.1, hi.2.2.2.2.2.1, hi.2.2.2.2.2.2.1, hi.2.2.2.2.2.2.2.1, hi.2.2.2.2.2.2.2.2.1, hi.2.2.2.2.2.2.2.2.2.1]
    have q7_ : M2_.1 104 0 = M2_.1 124 43 := by simp only [c0v2_, c1v2_, c2v2_, c3v2_, c4v2_, c5v2_, c6v2_, c7v2_, c8v2_, c9v2_, c10v2_, c11v2_, c12v2_, c13v2_, c14v2_, c15v2_, c16v2_, c17v2_, c0v1_, c1v1_, c2v1_, c3v1_, c4v1_, c5v1_, c6v1_, c7v1_, c8v1_, c9v1_, c10v1_, c11v1_, c12v1_, c13v1_, c14v1_, c15v1_, c16v1_, c17v1_, hi.2.1, hi.2.2.1, hi.2.2.2.1, hi.2.2.2.2.1, hi.2.2.2.2.2.1, hi.2.2.2.2.2.2.1, hi.2.2.2.2.2.2.2.1, hi.2.2.2.2.2.2.2.2.1, hi.2.2.2.2.2.2.2.2.2.1]
    have q8_ : M2_.1 105 0 = M2_.1 124 57 := by simp only [c0v2_, c1v2_, c2v2_, c3v2_, c4v2_, c5v2_, c6v2_, c7v2_, c8v2_, c9v2_, c10v2_, c11v2_, c12v2_, c13v2_, c14v2_, c15v2_, c16v2_, c17v2_, c0v1_, c1v1_, c2v1_, c3v1_, c4v1_, c5v1_, c6v1_, c7v1_, c8v1_, c9v1_, c10v1_, c11v1_, c12v1_, c13v1_, c14v1_, c15v1_, c16v1_, c17v1_, hi.2.1, hi.2.2.1, hi.2.2.2.1, hi.2.2.2.2.1, hi.2.2.2.2.2.1, hi.2.2.2.2.2.2.1, hi.2.2.2.2.2.2.2.1, hi.2.2.2.2.2.2.2.2.1, hi.2.2.2.2.2.2.2.2.2.1]
    exact ⟨q0_, q1_, q2_, q3_, q4_, q5_, q6_, q7_, q8_, zP1_k hi.2.2.2.2.2.2.2.2.2.2.1 (c0v2_.trans c0v1_) (zKc_t K1v1_ K1v2_) (zKm_t K3v1_ K3v2_), zP2_k hi.2.2.2.2.2.2.2.2.2.2.2.1 (c2v2_.trans c2v1_) (zKc_t K2v1_ K2v2_) (zKm_t K4v1_ K4v2_), zPT_k hi.2.2.2.2.2.2.2.2.2.2.2.2.1 T9v1_ T10v1_ T9v2_ T10v2_, zRr_k hi.2.2.2.2.2.2.2.2.2.2.2.2.2.1 (c8v2_.trans c8v1_) G1v1_ G3v1_ G1v2_ G3v2_, zRr_k hi.2.2.2.2.2.2.2.2.2.2.2.2.2.2.1 (c6v2_.trans c6v1_) G2v1_ G4v1_ G2v2_ G4v2_, zPH_k hi.2.2.2.2.2.2.2.2.2.2.2.2.2.2.2.1 A9v1_ A0v1_ A9v2_ A0v2_, zVe_k hi.2.2.2.2.2.2.2.2.2.2.2.2.2.2.2.2.1 (c0v2_.trans c0v1_) VSv1_ WSv1_ VSv2_ WSv2_, zVe_k hi.2.2.2.2.2.2.2.2.2.2.2.2.2.2.2.2.2.1 (c2v2_.trans c2v1_) VKv1_ WKv1_ VKv2_ WKv2_, zHW_d hi.1.1 hi.2.2.2.2.2.2.2.2.2.2.2.2.2.2.2.2.2.2 HBv1_ HDv1_ HBv2_ HDv2_⟩
  refine zr_pop C dL_law_700 rfl ?_
  refine zr_goto (tgt := 1337) C dL_law_701 (by decide) ?_
  exact kk M2_ ⟨iv2_, rv2_⟩
set_option maxRecDepth 10000 in
theorem zl_case_18 (htab : pvTab) {p : Program} {l : Launch} {e : Env} {s : State} {m : MethodId} {below : List Frame} {meth : Method} {c : Code} {b L : Nat} {xs : Nat → Int32} {D : va_G} {y : Nat → ClassId} {ad : Nat → Nat} {ls : Array Slot} {i : Int32} {Q : State → Prop} {M : pvM} (C : zLc p s m c b L xs D y ad ls i) (hi : zIR M) (kk : ∀ M1, zIR M1 → zLW p l e s m below meth c b D y ad ls Q 1337 [] M1) : zLW p l e s m below meth c b D y ad ls Q 704 [] M := by
  refine zr_x C dL_law_704 ?_
  refine zr_arg 1 C dL_law_705 dL_law_706 dL_law_707 dL_law_708 dL_law_709 (by decide) (by decide) ?_
  refine zr_call htab (j := 207) (n := 1) (q := 0) (as := [pvI (xs (i + 1).toNatClampNeg)]) (rest := []) C rfl rfl rfl rfl (lw_X9_two M hi.1 (xs (i + 1).toNatClampNeg)) (zgV zm_954 zm_955 zm_956 zm_2 zm_957) (by decide +kernel) rfl rfl rfl dL_law_710 rfl rfl (fun r M1_ h1_ => ?_)
  obtain ⟨⟨v1_, rfl⟩, iv1_, c0v1_, c1v1_, c2v1_, c3v1_, c4v1_, c5v1_, c6v1_, c7v1_, c8v1_, c9v1_, c10v1_, c11v1_, c12v1_, c13v1_, c14v1_, c15v1_, c16v1_, c17v1_, K1v1_, K2v1_, K3v1_, K4v1_, T9v1_, T10v1_, G1v1_, G2v1_, G3v1_, G4v1_, A9v1_, A0v1_, VSv1_, VKv1_, WSv1_, WKv1_, HBv1_, HDv1_⟩ := h1_
  refine zr_pop C dL_law_713 rfl ?_
  refine zr_m C dL_law_714 ?_
  refine zr_arg 1 C dL_law_715 dL_law_716 dL_law_717 dL_law_718 dL_law_719 (by decide) (by decide) ?_
  refine zr_call htab (j := 93) (n := 1) (q := 124) (as := [pvI (xs (i + 1).toNatClampNeg)]) (rest := []) C rfl rfl rfl rfl (lw_X10_two M1_ iv1_ (xs (i + 1).toNatClampNeg)) (zgV zm_962 zm_963 zm_964 zm_5 zm_965) (by decide +kernel) rfl rfl rfl dL_law_720 rfl rfl (fun r M2_ h2_ => ?_)
  obtain ⟨⟨v2_, rfl⟩, iv2_, c0v2_, c1v2_, c2v2_, c3v2_, c4v2_, c5v2_, c6v2_, c7v2_, c8v2_, c9v2_, c10v2_, c11v2_, c12v2_, c13v2_, c14v2_, c15v2_, c16v2_, c17v2_, K1v2_, K2v2_, K3v2_, K4v2_, T9v2_, T10v2_, G1v2_, G2v2_, G3v2_, G4v2_, A9v2_, A0v2_, VSv2_, VKv2_, WSv2_, WKv2_, HBv2_, HDv2_⟩ := h2_
  have rv2_ : zRl M2_ := by
    have q0_ : M2_.1 8 1 = M2_.1 124 0 := by simp only [c0v2_, c1v2_, c2v2_, c3v2_, c4v2_, c5v2_, c6v2_, c7v2_, c8v2_, c9v2_, c10v2_, c11v2_, c12v2_, c13v2_, c14v2_, c15v2_, c16v2_, c17v2_, c0v1_, c1v1_, c2v1_, c3v1_, c4v1_, c5v1_, c6v1_, c7v1_, c8v1_, c9v1_, c10v1_, c11v1_, c12v1_, c13v1_, c14v1_, c15v1_, c16v1_, c17v1_, hi.2.1, hi.2.2.1, hi.2.2.2.1, hi.2.2.2.2.1, hi.2.2.2.2.2.1, hi.2.2.2.2.2.2.1, hi.2.2.2.2.2.2.2.1, hi.2.2.2.2.2.2.2.2.1, hi.2.2.2.2.2.2.2.2.2.1]
    have q1_ : M2_.1 9 1 = M2_.1 124 48 := by simp only [c0v2_, c1v2_, c2v2_, c3v2_, c4v2_, c5v2_, c6v2_, c7v2_, c8v2_, c9v2_, c10v2_, c11v2_, c12v2_, c13v2_, c14v2_, c15v2_, c16v2_, c17v2_, c0v1_, c1v1_, c2v1_, c3v1_, c4v1_, c5v1_, c6v1_, c7v1_, c8v1_, c9v1_, c10v1_, c11v1_, c12v1_, c13v1_, c14v1_, c15v1_, c16v1_, c17v1_, hi.2.1, hi.2.2.1, hi.2.2.2.1, hi.2.2.2.2.1, hi.2.2.2.2.2.1, hi.2.2.2.2.2.2.1, hi.2.2.2.2.2.2.2.1, hi.2.2.2.2.2.2.2.2.1, hi.2.2.2.2.2.2.2.2.2.1]
    have q2_ : M2_.1 0 5 = M2_.1 124 46 := by simp only [c0v2_, c1v2_, c2v2_, c3v2_, c4v2_, c5v2_, c6v2_, c7v2_, c8v2_, c9v2_, c10v2_, c11v2_, c12v2_, c13v2_, c14v2_, c15v2_, c16v2_, c17v2_, c0v1_, c1v1_, c2v1_, c3v1_, c4v1_, c5v1_, c6v1_, c7v1_, c8v1_, c9v1_, c10v1_, c11v1_, c12v1_, c13v1_, c14v1_, c15v1_, c16v1_, c17v1_, hi.2.1, hi.2.2.1, hi.2.2.2.1, hi.2.2.2.2.1, hi.2.2.2.2.2.1, hi.2.2.2.2.2.2.1, hi.2.2.2.2.2.2.2.1, hi.2.2.2.2.2.2.2.2.1, hi.2.2.2.2.2.2.2.2.2.1]
    have q3_ : M2_.1 101 0 = M2_.1 124 55 := by simp only [c0v2_, c1v2_, c2v2_, c3v2_, c4v2_, c5v2_, c6v2_, c7v2_, c8v2_, c9v2_, c10v2_, c11v2_, c12v2_, c13v2_, c14v2_, c15v2_, c16v2_, c17v2_, c0v1_, c1v1_, c2v1_, c3v1_, c4v1_, c5v1_, c6v1_, c7v1_, c8v1_, c9v1_, c10v1_, c11v1_, c12v1_, c13v1_, c14v1_, c15v1_, c16v1_, c17v1_, hi.2.1, hi.2.2.1, hi.2.2.2.1, hi.2.2.2.2.1, hi.2.2.2.2.2.1, hi.2.2.2.2.2.2.1, hi.2.2.2.2.2.2.2.1, hi.2.2.2.2.2.2.2.2.1, hi.2.2.2.2.2.2.2.2.2.1]
    have q4_ : M2_.1 100 0 = M2_.1 124 37 := by simp only [c0v2_, c1v2_, c2v2_, c3v2_, c4v2_, c5v2_, c6v2_, c7v2_, c8v2_, c9v2_, c10v2_, c11v2_, c12v2_, c13v2_, c14v2_, c15v2_, c16v2_, c17v2_, c0v1_, c1v1_, c2v1_, c3v1_, c4v1_, c5v1_, c6v1_, c7v1_, c8v1_, c9v1_, c10v1_, c11v1_, c12v1_, c13v1_, c14v1_, c15v1_, c16v1_, c17v1_, hi.2.1, hi.2.2.1, hi.2.2.2.1, hi.2.2.2.2.1, hi.2.2.2.2.2.1, hi.2.2.2.2.2.2.1, hi.2.2.2.2.2.2.2.1, hi.2.2.2.2.2.2.2.2.1, hi.2.2.2.2.2.2.2.2.2.1]
    have q5_ : M2_.1 102 0 = M2_.1 124 40 := by simp only [c0v2_, c1v2_, c2v2_, c3v2_, c4v2_, c5v2_, c6v2_, c7v2_, c8v2_, c9v2_, c10v2_, c11v2_, c12v2_, c13v2_, c14v2_, c15v2_, c16v2_, c17v2_, c0v1_, c1v1_, c2v1_, c3v1_, c4v1_, c5v1_, c6v1_, c7v1_, c8v1_, c9v1_, c10v1_, c11v1_, c12v1_, c13v1_, c14v1_, c15v1_, c16v1_, c17v1_, hi.2.1, hi.2.2.1, hi.2.2.2.1, hi.2.2.2.2.1, hi.2.2.2.2.2.1, hi.2.2.2.2.2.2.1, hi.2.2.2.2.2.2.2.1, hi.2.2.2.2.2.2.2.2.1, hi.2.2.2.2.2.2.2.2.2.1]
    have q6_ : M2_.1 103 0 = M2_.1 124 56 := by simp only [c0v2_, c1v2_, c2v2_, c3v2_, c4v2_, c5v2_, c6v2_, c7v2_, c8v2_, c9v2_, c10v2_, c11v2_, c12v2_, c13v2_, c14v2_, c15v2_, c16v2_, c17v2_, c0v1_, c1v1_, c2v1_, c3v1_, c4v1_, c5v1_, c6v1_, c7v1_, c8v1_, c9v1_, c10v1_, c11v1_, c12v1_, c13v1_, c14v1_, c15v1_, c16v1_, c17v1_, hi.2.1, hi.2.2.1, hi.2.2.2.1, hi.2.2.2.2.1, hi.2.2.2.2.2.1, hi.2.2.2.2.2.2.1, hi.2.2.2.2.2.2.2.1, hi.2.2.2.2.2.2.2.2.1, hi.2.2.2.2.2.2.2.2.2.1]
    have q7_ : M2_.1 104 0 = M2_.1 124 43 := by simp only [c0v2_, c1v2_, c2v2_, c3v2_, c4v2_, c5v2_, c6v2_, c7v2_, c8v2_, c9v2_, c10v2_, c11v2_, c12v2_, c13v2_, c14v2_, c15v2_, c16v2_, c17v2_, c0v1_, c1v1_, c2v1_, c3v1_, c4v1_, c5v1_, c6v1_, c7v1_, c8v1_, c9v1_, c10v1_, c11v1_, c12v1_, c13v1_, c14v1_, c15v1_, c16v1_, c17v1_, hi.2.1, hi.2.2.1, hi.2.2.2.1, hi.2.2.2.2.1, hi.2.2.2.2.2.1, hi.2.2.2.2.2.2.1, hi.2.2.2.2.2.2.2.1, hi.2.2.2.2.2.2.2.2.1, hi.2.2.2.2.2.2.2.2.2.1]
    have q8_ : M2_.1 105 0 = M2_.1 124 57 := by simp only [c0v2_, c1v2_, c2v2_, c3v2_, c4v2_, c5v2_, c6v2_, c7v2_, c8v2_, c9v2_, c10v2_, c11v2_, c12v2_, c13v2_, c14v2_, c15v2_, c16v2_, c17v2_, c0v1_, c1v1_, c2v1_, c3v1_, c4v1_, c5v1_, c6v1_, c7v1_, c8v1_, c9v1_, c10v1_, c11v1_, c12v1_, c13v1_, c14v1_, c15v1_, c16v1_, c17v1_, hi.2.1, hi.2.2.1, hi.2.2.2.1, hi.2.2.2.2.1, hi.2.2.2.2.2.1, hi.2.2.2.2.2.2.1, hi.2.2.2.2.2.2.2.1, hi.2.2.2.2.2.2.2.2.1, hi.2.2.2.2.2.2.2.2.2.1]
    exact ⟨q0_, q1_, q2_, q3_, q4_, q5_, q6_, q7_, q8_, zP1_k hi.2.2.2.2.2.2.2.2.2.2.1 (c0v2_.trans c0v1_) (zKc_t K1v1_ K1v2_) (zKm_t K3v1_ K3v2_), zP2_k hi.2.2.2.2.2.2.2.2.2.2.2.1 (c2v2_.trans c2v1_) (zKc_t K2v1_ K2v2_) (zKm_t K4v1_ K4v2_), zPT_k hi.2.2.2.2.2.2.2.2.2.2.2.2.1 T9v1_ T10v1_ T9v2_ T10v2_, zRr_k hi.2.2.2.2.2.2.2.2.2.2.2.2.2.1 (c8v2_.trans c8v1_) G1v1_ G3v1_ G1v2_ G3v2_, zRr_k hi.2.2.2.2.2.2.2.2.2.2.2.2.2.2.1 (c6v2_.trans c6v1_) G2v1_ G4v1_ G2v2_ G4v2_, zPH_k hi.2.2.2.2.2.2.2.2.2.2.2.2.2.2.2.1 A9v1_ A0v1_ A9v2_ A0v2_, zVe_k hi.2.2.2.2.2.2.2.2.2.2.2.2.2.2.2.2.1 (c0v2_.trans c0v1_) VSv1_ WSv1_ VSv2_ WSv2_, zVe_k hi.2.2.2.2.2.2.2.2.2.2.2.2.2.2.2.2.2.1 (c2v2_.trans c2v1_) VKv1_ WKv1_ VKv2_ WKv2_, zHW_d hi.1.1 hi.2.2.2.2.2.2.2.2.2.2.2.2.2.2.2.2.2.2 HBv1_ HDv1_ HBv2_ HDv2_⟩
  refine zr_pop C dL_law_723 rfl ?_
  refine zr_goto (tgt := 1337) C dL_law_724 (by decide) ?_
  exact kk M2_ ⟨iv2_, rv2_⟩
set_option maxRecDepth 10000 in
theorem zl_case_19 (htab : pvTab) {p : Program} {l : Launch} {e : Env} {s : State} {m : MethodId} {below : List Frame} {meth : Method} {c : Code} {b L : Nat} {xs : Nat → Int32} {D : va_G} {y : Nat → ClassId} {ad : Nat → Nat} {ls : Array Slot} {i : Int32} {Q : State → Prop} {M : pvM} (C : zLc p s m c b L xs D y ad ls i) (hi : zIR M) (kk : ∀ M1, zIR M1 → zLW p l e s m below meth c b D y ad ls Q 1337 [] M1) : zLW p l e s m below meth c b D y ad ls Q 727 [] M := by
  refine zr_x C dL_law_727 ?_
  refine zr_arg 1 C dL_law_728 dL_law_729 dL_law_730 dL_law_731 dL_law_732 (by decide) (by decide) ?_
  refine zr_call htab (j := 212) (n := 1) (q := 0) (as := [pvI (xs (i + 1).toNatClampNeg)]) (rest := []) C rfl rfl rfl rfl (lw_X9_worth M hi.1 (xs (i + 1).toNatClampNeg)) (zgV zm_966 zm_967 zm_968 zm_2 zm_969) (by decide +kernel) rfl rfl rfl dL_law_733 rfl rfl (fun r M1_ h1_ => ?_)
  obtain ⟨⟨v1_, rfl⟩, iv1_, c0v1_, c1v1_, c2v1_, c3v1_, c4v1_, c5v1_, c6v1_, c7v1_, c8v1_, c9v1_, c10v1_, c11v1_, c12v1_, c13v1_, c14v1_, c15v1_, c16v1_, c17v1_, K1v1_, K2v1_, K3v1_, K4v1_, T9v1_, T10v1_, G1v1_, G2v1_, G3v1_, G4v1_, A9v1_, A0v1_, VSv1_, VKv1_, WSv1_, WKv1_, HBv1_, HDv1_⟩ := h1_
  refine zr_pop C dL_law_736 rfl ?_
  refine zr_m C dL_law_737 ?_
  refine zr_arg 1 C dL_law_738 dL_law_739 dL_law_740 dL_law_741 dL_law_742 (by decide) (by decide) ?_
  refine zr_call htab (j := 101) (n := 1) (q := 124) (as := [pvI (xs (i + 1).toNatClampNeg)]) (rest := []) C rfl rfl rfl rfl (lw_X10_worth M1_ iv1_ (xs (i + 1).toNatClampNeg)) (zgV zm_971 zm_972 zm_973 zm_5 zm_974) (by decide +kernel) rfl rfl rfl dL_law_743 rfl rfl (fun r M2_ h2_ => ?_)
  obtain ⟨⟨v2_, rfl⟩, iv2_, c0v2_, c1v2_, c2v2_, c3v2_, c4v2_, c5v2_, c6v2_, c7v2_, c8v2_, c9v2_, c10v2_, c11v2_, c12v2_, c13v2_, c14v2_, c15v2_, c16v2_, c17v2_, K1v2_, K2v2_, K3v2_, K4v2_, T9v2_, T10v2_, G1v2_, G2v2_, G3v2_, G4v2_, A9v2_, A0v2_, VSv2_, VKv2_, WSv2_, WKv2_, HBv2_, HDv2_⟩ := h2_
  have rv2_ : zRl M2_ := by
    have q0_ : M2_.1 8 1 = M2_.1 124 0 := by simp only [c0v2_, c1v2_, c2v2_, c3v2_, c4v2_, c5v2_, c6v2_, c7v2_, c8v2_, c9v2_, c10v2_, c11v2_, c12v2_, c13v2_, c14v2_, c15v2_, c16v2_, c17v2_, c0v1_, c1v1_, c2v1_, c3v1_, c4v1_, c5v1_, c6v1_, c7v1_, c8v1_, c9v1_, c10v1_, c11v1_, c12v1_, c13v1_, c14v1_, c15v1_, c16v1_, c17v1_, hi.2.1, hi.2.2.1, hi.2.2.2.1, hi.2.2.2.2.1, hi.2.2.2.2.2.1, hi.2.2.2.2.2.2.1, hi.2.2.2.2.2.2.2.1, hi.2.2.2.2.2.2.2.2.1, hi.2.2.2.2.2.2.2.2.2.1]
    have q1_ : M2_.1 9 1 = M2_.1 124 48 := by simp only [c0v2_, c1v2_, c2v2_, c3v2_, c4v2_, c5v2_, c6v2_, c7v2_, c8v2_, c9v2_, c10v2_, c11v2_, c12v2_, c13v2_, c14v2_, c15v2_, c16v2_, c17v2_, c0v1_, c1v1_, c2v1_, c3v1_, c4v1_, c5v1_, c6v1_, c7v1_, c8v1_, c9v1_, c10v1_, c11v1_, c12v1_, c13v1_, c14v1_, c15v1_, c16v1_, c17v1_, hi.2.1, hi.2.2.1, hi.2.2.2.1, hi.2.2.2.2.1, hi.2.2.2.2.2.1, hi.2.2.2.2.2.2.1, hi.2.2.2.2.2.2.2.1, hi.2.2.2.2.2.2.2.2.1, hi.2.2.2.2.2.2.2.2.2.1]
    have q2_ : M2_.1 0 5 = M2_.1 124 46 := by simp only [c0v2_, c1v2_, c2v2_, c3v2_, c4v2_, c5v2_, c6v2_, c7v2_, c8v2_, c9v2_, c10v2_, c11v2_, c12v2_, c13v2_, c14v2_, c15v2_, c16v2_, c17v2_, c0v1_, c1v1_, c2v1_, c3v1_, c4v1_, c5v1_, c6v1_, c7v1_, c8v1_, c9v1_, c10v1_, c11v1_, c12v1_, c13v1_, c14v1_, c15v1_, c16v1_, c17v1_, hi.2.1, hi.2.2.1, hi.2.2.2.1, hi.2.2.2.2.1, hi.2.2.2.2.2.1, hi.2.2.2.2.2.2.1, hi.2.2.2.2.2.2.2.1, hi.2.2.2.2.2.2.2.2.1, hi.2.2.2.2.2.2.2.2.2.1]
    have q3_ : M2_.1 101 0 = M2_.1 124 55 := by simp only [c0v2_, c1v2_, c2v2_, c3v2_, c4v2_, c5v2_, c6v2_, c7v2_, c8v2_, c9v2_, c10v2_, c11v2_, c12v2_, c13v2_, c14v2_, c15v2_, c16v2_, c17v2_, c0v1_, c1v1_, c2v1_, c3v1_, c4v1_, c5v1_, c6v1_, c7v1_, c8v1_, c9v1_, c10v1_, c11v1_, c12v1_, c13v1_, c14v1_, c15v1_, c16v1_, c17v1_, hi.2.1, hi.2.2.1, hi.2.2.2.1, hi.2.2.2.2.1, hi.2.2.2.2.2.1, hi.2.2.2.2.2.2.1, hi.2.2.2.2.2.2.2.1, hi.2.2.2.2.2.2.2.2.1, hi.2.2.2.2.2.2.2.2.2.1]
    have q4_ : M2_.1 100 0 = M2_.1 124 37 := by simp only [c0v2_, c1v2_, c2v2_, c3v2_, c4v2_, c5v2_, c6v2_, c7v2_, c8v2_, c9v2_, c10v2_, c11v2_, c12v2_, c13v2_, c14v2_, c15v2_, c16v2_, c17v2_, c0v1_, c1v1_, c2v1_, c3v1_, c4v1_, c5v1_, c6v1_, c7v1_, c8v1_, c9v1_, c10v1_, c11v1_, c12v1_, c13v1_, c14v1_, c15v1_, c16v1_, c17v1_, hi.2.1, hi.2.2.1, hi.2.2.2.1, hi.2.2.2.2.1, hi.2.2.2.2.2.1, hi.2.2.2.2.2.2.1, hi.2.2.2.2.2.2.2.1, hi.2.2.2.2.2.2.2.2.1, hi.2.2.2.2.2.2.2.2.2.1]
    have q5_ : M2_.1 102 0 = M2_.1 124 40 := by simp only [c0v2_, c1v2_, c2v2_, c3v2_, c4v2_, c5v2_, c6v2_, c7v2_, c8v2_, c9v2_, c10v2_, c11v2_, c12v2_, c13v2_, c14v2_, c15v2_, c16v2_, c17v2_, c0v1_, c1v1_, c2v1_, c3v1_, c4v1_, c5v1_, c6v1_, c7v1_, c8v1_, c9v1_, c10v1_, c11v1_, c12v1_, c13v1_, c14v1_, c15v1_, c16v1_, c17v1_, hi.2.1, hi.2.2.1, hi.2.2.2.1, hi.2.2.2.2.1, hi.2.2.2.2.2.1, hi.2.2.2.2.2.2.1, hi.2.2.2.2.2.2.2.1, hi.2.2.2.2.2.2.2.2.1, hi.2.2.2.2.2.2.2.2.2.1]
    have q6_ : M2_.1 103 0 = M2_.1 124 56 := by simp only [c0v2_, c1v2_, c2v2_, c3v2_, c4v2_, c5v2_, c6v2_, c7v2_, c8v2_, c9v2_, c10v2_, c11v2_, c12v2_, c13v2_, c14v2_, c15v2_, c16v2_, c17v2_, c0v1_, c1v1_, c2v1_, c3v1_, c4v1_, c5v1_, c6v1_, c7v1_, c8v1_, c9v1_, c10v1_, c11v1_, c12v1_, c13v1_, c14v1_, c15v1_, c16v1_, c17v1_, hi.2.1, hi.2.2.1, hi.2.2.2.1, hi.2.2.2.2.1, hi.2.2.2.2.2.1, hi.2.2.2.2.2.2.1, hi.2.2.2.2.2.2.2.1, hi.2.2.2.2.2.2.2.2.1, hi.2.2.2.2.2.2.2.2.2.1]
    have q7_ : M2_.1 104 0 = M2_.1 124 43 := by simp only [c0v2_, c1v2_, c2v2_, c3v2_, c4v2_, c5v2_, c6v2_, c7v2_, c8v2_, c9v2_, c10v2_, c11v2_, c12v2_, c13v2_, c14v2_, c15v2_, c16v2_, c17v2_, c0v1_, c1v1_, c2v1_, c3v1_, c4v1_, c5v1_, c6v1_, c7v1_, c8v1_, c9v1_, c10v1_, c11v1_, c12v1_, c13v1_, c14v1_, c15v1_, c16v1_, c17v1_, hi.2.1, hi.2.2.1, hi.2.2.2.1, hi.2.2.2.2.1, hi.2.2.2.2.2.1, hi.2.2.2.2.2.2.1, hi.2.2.2.2.2.2.2.1, hi.2.2.2.2.2.2.2.2.1, hi.2.2.2.2.2.2.2.2.2.1]
    have q8_ : M2_.1 105 0 = M2_.1 124 57 := by simp only [c0v2_, c1v2_, c2v2_, c3v2_, c4v2_, c5v2_, c6v2_, c7v2_, c8v2_, c9v2_, c10v2_, c11v2_, c12v2_, c13v2_, c14v2_, c15v2_, c16v2_, c17v2_, c0v1_, c1v1_, c2v1_, c3v1_, c4v1_, c5v1_, c6v1_, c7v1_, c8v1_, c9v1_, c10v1_, c11v1_, c12v1_, c13v1_, c14v1_, c15v1_, c16v1_, c17v1_, hi.2.1, hi.2.2.1, hi.2.2.2.1, hi.2.2.2.2.1, hi.2.2.2.2.2.1, hi.2.2.2.2.2.2.1, hi.2.2.2.2.2.2.2.1, hi.2.2.2.2.2.2.2.2.1, hi.2.2.2.2.2.2.2.2.2.1]
    exact ⟨q0_, q1_, q2_, q3_, q4_, q5_, q6_, q7_, q8_, zP1_k hi.2.2.2.2.2.2.2.2.2.2.1 (c0v2_.trans c0v1_) (zKc_t K1v1_ K1v2_) (zKm_t K3v1_ K3v2_), zP2_k hi.2.2.2.2.2.2.2.2.2.2.2.1 (c2v2_.trans c2v1_) (zKc_t K2v1_ K2v2_) (zKm_t K4v1_ K4v2_), zPT_k hi.2.2.2.2.2.2.2.2.2.2.2.2.1 T9v1_ T10v1_ T9v2_ T10v2_, zRr_k hi.2.2.2.2.2.2.2.2.2.2.2.2.2.1 (c8v2_.trans c8v1_) G1v1_ G3v1_ G1v2_ G3v2_, zRr_k hi.2.2.2.2.2.2.2.2.2.2.2.2.2.2.1 (c6v2_.trans c6v1_) G2v1_ G4v1_ G2v2_ G4v2_, zPH_k hi.2.2.2.2.2.2.2.2.2.2.2.2.2.2.2.1 A9v1_ A0v1_ A9v2_ A0v2_, zVe_k hi.2.2.2.2.2.2.2.2.2.2.2.2.2.2.2.2.1 (c0v2_.trans c0v1_) VSv1_ WSv1_ VSv2_ WSv2_, zVe_k hi.2.2.2.2.2.2.2.2.2.2.2.2.2.2.2.2.2.1 (c2v2_.trans c2v1_) VKv1_ WKv1_ VKv2_ WKv2_, zHW_d hi.1.1 hi.2.2.2.2.2.2.2.2.2.2.2.2.2.2.2.2.2.2 HBv1_ HDv1_ HBv2_ HDv2_⟩
  refine zr_pop C dL_law_746 rfl ?_
  refine zr_goto (tgt := 1337) C dL_law_747 (by decide) ?_
  exact kk M2_ ⟨iv2_, rv2_⟩
set_option maxRecDepth 10000 in
theorem zl_case_20 (htab : pvTab) {p : Program} {l : Launch} {e : Env} {s : State} {m : MethodId} {below : List Frame} {meth : Method} {c : Code} {b L : Nat} {xs : Nat → Int32} {D : va_G} {y : Nat → ClassId} {ad : Nat → Nat} {ls : Array Slot} {i : Int32} {Q : State → Prop} {M : pvM} (C : zLc p s m c b L xs D y ad ls i) (hi : zIR M) (kk : ∀ M1, zIR M1 → zLW p l e s m below meth c b D y ad ls Q 1337 [] M1) : zLW p l e s m below meth c b D y ad ls Q 750 [] M := by
  refine zr_x C dL_law_750 ?_
  refine zr_arg 1 C dL_law_751 dL_law_752 dL_law_753 dL_law_754 dL_law_755 (by decide) (by decide) ?_
  refine zr_call htab (j := 200) (n := 1) (q := 0) (as := [pvI (xs (i + 1).toNatClampNeg)]) (rest := []) C rfl rfl rfl rfl (lw_X9_sides M hi.1 (xs (i + 1).toNatClampNeg)) (zgV zm_979 zm_980 zm_981 zm_2 zm_982) (by decide +kernel) rfl rfl rfl dL_law_756 rfl rfl (fun r M1_ h1_ => ?_)
  obtain ⟨⟨v1_, rfl⟩, iv1_, c0v1_, c1v1_, c2v1_, c3v1_, c4v1_, c5v1_, c6v1_, c7v1_, c8v1_, c9v1_, c10v1_, c11v1_, c12v1_, c13v1_, c14v1_, c15v1_, c16v1_, c17v1_, K1v1_, K2v1_, K3v1_, K4v1_, T9v1_, T10v1_, G1v1_, G2v1_, G3v1_, G4v1_, A9v1_, A0v1_, VSv1_, VKv1_, WSv1_, WKv1_, HBv1_, HDv1_⟩ := h1_
  refine zr_pop C dL_law_759 rfl ?_
  refine zr_m C dL_law_760 ?_
  refine zr_arg 1 C dL_law_761 dL_law_762 dL_law_763 dL_law_764 dL_law_765 (by decide) (by decide) ?_
  refine zr_call htab (j := 77) (n := 1) (q := 124) (as := [pvI (xs (i + 1).toNatClampNeg)]) (rest := []) C rfl rfl rfl rfl (lw_X10_sides M1_ iv1_ (xs (i + 1).toNatClampNeg)) (zgV zm_984 zm_985 zm_986 zm_5 zm_987) (by decide +kernel) rfl rfl rfl dL_law_766 rfl rfl (fun r M2_ h2_ => ?_)
  obtain ⟨⟨v2_, rfl⟩, iv2_, c0v2_, c1v2_, c2v2_, c3v2_, c4v2_, c5v2_, c6v2_, c7v2_, c8v2_, c9v2_, c10v2_, c11v2_, c12v2_, c13v2_, c14v2_, c15v2_, c16v2_, c17v2_, K1v2_, K2v2_, K3v2_, K4v2_, T9v2_, T10v2_, G1v2_, G2v2_, G3v2_, G4v2_, A9v2_, A0v2_, VSv2_, VKv2_, WSv2_, WKv2_, HBv2_, HDv2_⟩ := h2_
  have rv2_ : zRl M2_ := by
    have q0_ : M2_.1 8 1 = M2_.1 124 0 := by simp only [c0v2_, c1v2_, c2v2_, c3v2_, c4v2_, c5v2_, c6v2_, c7v2_, c8v2_, c9v2_, c10v2_, c11v2_, c12v2_, c13v2_, c14v2_, c15v2_, c16v2_, c17v2_, c0v1_, c1v1_, c2v1_, c3v1_, c4v1_, c5v1_, c6v1_, c7v1_, c8v1_, c9v1_, c10v1_, c11v1_, c12v1_, c13v1_, c14v1_, c15v1_, c16v1_, c17v1_, hi.2.1, hi.2.2.1, hi.2.2.2.1, hi.2.2.2.2.1, hi.2.2.2.2.2.1, hi.2.2.2.2.2.2.1, hi.2.2.2.2.2.2.2.1, hi.2.2.2.2.2.2.2.2.1, hi.2.2.2.2.2.2.2.2.2.1]
    have q1_ : M2_.1 9 1 = M2_.1 124 48 := by simp only [c0v2_, c1v2_, c2v2_, c3v2_, c4v2_, c5v2_, c6v2_, c7v2_, c8v2_, c9v2_, c10v2_, c11v2_, c12v2_, c13v2_, c14v2_, c15v2_, c16v2_, c17v2_, c0v1_, c1v1_, c2v1_, c3v1_, c4v1_, c5v1_, c6v1_, c7v1_, c8v1_, c9v1_, c10v1_, c11v1_, c12v1_, c13v1_, c14v1_, c15v1_, c16v1_, c17v1_, hi.2.1, hi.2.2.1, hi.2.2.2.1, hi.2.2.2.2.1, hi.2.2.2.2.2.1, hi.2.2.2.2.2.2.1, hi.2.2.2.2.2.2.2.1, hi.2.2.2.2.2.2.2.2.1, hi.2.2.2.2.2.2.2.2.2.1]
    have q2_ : M2_.1 0 5 = M2_.1 124 46 := by simp only [c0v2_, c1v2_, c2v2_, c3v2_, c4v2_, c5v2_, c6v2_, c7v2_, c8v2_, c9v2_, c10v2_, c11v2_, c12v2_, c13v2_, c14v2_, c15v2_, c16v2_, c17v2_, c0v1_, c1v1_, c2v1_, c3v1_, c4v1_, c5v1_, c6v1_, c7v1_, c8v1_, c9v1_, c10v1_, c11v1_, c12v1_, c13v1_, c14v1_, c15v1_, c16v1_, c17v1_, hi.2.1, hi.2.2.1, hi.2.2.2.1, hi.2.2.2.2.1, hi.2.2.2.2.2.1, hi.2.2.2.2.2.2.1, hi.2.2.2.2.2.2.2.1, hi.2.2.2.2.2.2.2.2.1, hi.2.2.2.2.2.2.2.2.2.1]
    have q3_ : M2_.1 101 0 = M2_.1 124 55 := by simp only [c0v2_, c1v2_, c2v2_, c3v2_, c4v2_, c5v2_, c6v2_, c7v2_, c8v2_, c9v2_, c10v2_, c11v2_, c12v2_, c13v2_, c14v2_, c15v2_, c16v2_, c17v2_, c0v1_, c1v1_, c2v1_, c3v1_, c4v1_, c5v1_, c6v1_, c7v1_, c8v1_, c9v1_, c10v1_, c11v1_, c12v1_, c13v1_, c14v1_, c15v1_, c16v1_, c17v1_, hi.2.1, hi.2.2.1, hi.2.2.2.1, hi.2.2.2.2.1, hi.2.2.2.2.2.1, hi.2.2.2.2.2.2.1, hi.2.2.2.2.2.2.2.1, hi.2.2.2.2.2.2.2.2.1, hi.2.2.2.2.2.2.2.2.2.1]
    have q4_ : M2_.1 100 0 = M2_.1 124 37 := by simp only [c0v2_, c1v2_, c2v2_, c3v2_, c4v2_, c5v2_, c6v2_, c7v2_, c8v2_, c9v2_, c10v2_, c11v2_, c12v2_, c13v2_, c14v2_, c15v2_, c16v2_, c17v2_, c0v1_, c1v1_, c2v1_, c3v1_, c4v1_, c5v1_, c6v1_, c7v1_, c8v1_, c9v1_, c10v1_, c11v1_, c12v1_, c13v1_, c14v1_, c15v1_, c16v1_, c17v1_, hi.2.1, hi.2.2.1, hi.2.2.2.1, hi.2.2.2.2.1, hi.2.2.2.2.2.1, hi.2.2.2.2.2.2.1, hi.2.2.2.2.2.2.2.1, hi.2.2.2.2.2.2.2.2.1, hi.2.2.2.2.2.2.2.2.2.1]
    have q5_ : M2_.1 102 0 = M2_.1 124 40 := by simp only [c0v2_, c1v2_, c2v2_, c3v2_, c4v2_, c5v2_, c6v2_, c7v2_, c8v2_, c9v2_, c10v2_, c11v2_, c12v2_, c13v2_, c14v2_, c15v2_, c16v2_, c17v2_, c0v1_, c1v1_, c2v1_, c3v1_, c4v1_, c5v1_, c6v1_, c7v1_, c8v1_, c9v1_, c10v1_, c11v1_, c12v1_, c13v1_, c14v1_, c15v1_, c16v1_, c17v1_, hi.2.1, hi.2.2.1, hi.2.2.2.1, hi.2.2.2.2.1, hi.2.2.2.2.2.1, hi.2.2.2.2.2.2.1, hi.2.2.2.2.2.2.2.1, hi.2.2.2.2.2.2.2.2.1, hi.2.2.2.2.2.2.2.2.2.1]
    have q6_ : M2_.1 103 0 = M2_.1 124 56 := by simp only [c0v2_, c1v2_, c2v2_, c3v2_, c4v2_, c5v2_, c6v2_, c7v2_, c8v2_, c9v2_, c10v2_, c11v2_, c12v2_, c13v2_, c14v2_, c15v2_, c16v2_, c17v2_, c0v1_, c1v1_, c2v1_, c3v1_, c4v1_, c5v1_, c6v1_, c7v1_, c8v1_, c9v1_, c10v1_, c11v1_, c12v1_, c13v1_, c14v1_, c15v1_, c16v1_, c17v1_, hi.2.1, hi.2.2.1, hi.2.2.2.1, hi.2.2.2.2.1, hi.2.2.2.2.2.1, hi.2.2.2.2.2.2.1, hi.2.2.2.2.2.2.2.1, hi.2.2.2.2.2.2.2.2.1, hi.2.2.2.2.2.2.2.2.2.1]
    have q7_ : M2_.1 104 0 = M2_.1 124 43 := by simp only [c0v2_, c1v2_, c2v2_, c3v2_, c4v2_, c5v2_, c6v2_, c7v2_, c8v2_, c9v2_, c10v2_, c11v2_, c12v2_, c13v2_, c14v2_, c15v2_, c16v2_, c17v2_, c0v1_, c1v1_, c2v1_, c3v1_, c4v1_, c5v1_, c6v1_, c7v1_, c8v1_, c9v1_, c10v1_, c11v1_, c12v1_, c13v1_, c14v1_, c15v1_, c16v1_, c17v1_, hi.2.1, hi.2.2.1, hi.2.2.2.1, hi.2.2.2.2.1, hi.2.2.2.2.2.1, hi.2.2.2.2.2.2.1, hi.2.2.2.2.2.2.2.1, hi.2.2.2.2.2.2.2.2.1, hi.2.2.2.2.2.2.2.2.2.1]
    have q8_ : M2_.1 105 0 = M2_.1 124 57 := by simp only [c0v2_, c1v2_, c2v2_, c3v2_, c4v2_, c5v2_, c6v2_, c7v2_, c8v2_, c9v2_, c10v2_, c11v2_, c12v2_, c13v2_, c14v2_, c15v2_, c16v2_, c17v2_, c0v1_, c1v1_, c2v1_, c3v1_, c4v1_, c5v1_, c6v1_, c7v1_, c8v1_, c9v1_, c10v1_, c11v1_, c12v1_, c13v1_, c14v1_, c15v1_, c16v1_, c17v1_, hi.2.1, hi.2.2.1, hi.2.2.2.1, hi.2.2.2.2.1, hi.2.2.2.2.2.1, hi.2.2.2.2.2.2.1, hi.2.2.2.2.2.2.2.1, hi.2.2.2.2.2.2.2.2.1, hi.2.2.2.2.2.2.2.2.2.1]
    exact ⟨q0_, q1_, q2_, q3_, q4_, q5_, q6_, q7_, q8_, zP1_k hi.2.2.2.2.2.2.2.2.2.2.1 (c0v2_.trans c0v1_) (zKc_t K1v1_ K1v2_) (zKm_t K3v1_ K3v2_), zP2_k hi.2.2.2.2.2.2.2.2.2.2.2.1 (c2v2_.trans c2v1_) (zKc_t K2v1_ K2v2_) (zKm_t K4v1_ K4v2_), zPT_k hi.2.2.2.2.2.2.2.2.2.2.2.2.1 T9v1_ T10v1_ T9v2_ T10v2_, zRr_k hi.2.2.2.2.2.2.2.2.2.2.2.2.2.1 (c8v2_.trans c8v1_) G1v1_ G3v1_ G1v2_ G3v2_, zRr_k hi.2.2.2.2.2.2.2.2.2.2.2.2.2.2.1 (c6v2_.trans c6v1_) G2v1_ G4v1_ G2v2_ G4v2_, zPH_k hi.2.2.2.2.2.2.2.2.2.2.2.2.2.2.2.1 A9v1_ A0v1_ A9v2_ A0v2_, zVe_k hi.2.2.2.2.2.2.2.2.2.2.2.2.2.2.2.2.1 (c0v2_.trans c0v1_) VSv1_ WSv1_ VSv2_ WSv2_, zVe_k hi.2.2.2.2.2.2.2.2.2.2.2.2.2.2.2.2.2.1 (c2v2_.trans c2v1_) VKv1_ WKv1_ VKv2_ WKv2_, zHW_d hi.1.1 hi.2.2.2.2.2.2.2.2.2.2.2.2.2.2.2.2.2.2 HBv1_ HDv1_ HBv2_ HDv2_⟩
  refine zr_pop C dL_law_769 rfl ?_
  refine zr_goto (tgt := 1337) C dL_law_770 (by decide) ?_
  exact kk M2_ ⟨iv2_, rv2_⟩
set_option maxRecDepth 10000 in
theorem zl_case_21 (htab : pvTab) {p : Program} {l : Launch} {e : Env} {s : State} {m : MethodId} {below : List Frame} {meth : Method} {c : Code} {b L : Nat} {xs : Nat → Int32} {D : va_G} {y : Nat → ClassId} {ad : Nat → Nat} {ls : Array Slot} {i : Int32} {Q : State → Prop} {M : pvM} (C : zLc p s m c b L xs D y ad ls i) (hi : zIR M) (kk : ∀ M1, zIR M1 → zLW p l e s m below meth c b D y ad ls Q 1337 [] M1) : zLW p l e s m below meth c b D y ad ls Q 773 [] M := by
  refine zr_x C dL_law_773 ?_
  refine zr_arg 1 C dL_law_774 dL_law_775 dL_law_776 dL_law_777 dL_law_778 (by decide) (by decide) ?_
  refine zr_call htab (j := 169) (n := 1) (q := 0) (as := [pvI (xs (i + 1).toNatClampNeg)]) (rest := []) C rfl rfl rfl rfl (lw_X9_begin M hi.1 (xs (i + 1).toNatClampNeg)) (zgV zm_988 zm_989 zm_990 zm_2 zm_991) (by decide +kernel) rfl rfl rfl dL_law_779 rfl rfl (fun r M1_ h1_ => ?_)
  obtain ⟨⟨v1_, rfl⟩, iv1_, c0v1_, c1v1_, c2v1_, c3v1_, c4v1_, c5v1_, c6v1_, c7v1_, c8v1_, c9v1_, c10v1_, c11v1_, c12v1_, c13v1_, c14v1_, c15v1_, c16v1_, c17v1_, K1v1_, K2v1_, K3v1_, K4v1_, T9v1_, T10v1_, G1v1_, G2v1_, G3v1_, G4v1_, A9v1_, A0v1_, VSv1_, VKv1_, WSv1_, WKv1_, HBv1_, HDv1_⟩ := h1_
  refine zr_pop C dL_law_782 rfl ?_
  refine zr_m C dL_law_783 ?_
  refine zr_arg 1 C dL_law_784 dL_law_785 dL_law_786 dL_law_787 dL_law_788 (by decide) (by decide) ?_
  refine zr_call htab (j := 8) (n := 1) (q := 124) (as := [pvI (xs (i + 1).toNatClampNeg)]) (rest := []) C rfl rfl rfl rfl (lw_X10_begin M1_ iv1_ (xs (i + 1).toNatClampNeg)) (zgV zm_993 zm_994 zm_995 zm_5 zm_996) (by decide +kernel) rfl rfl rfl dL_law_789 rfl rfl (fun r M2_ h2_ => ?_)
  obtain ⟨⟨v2_, rfl⟩, iv2_, c0v2_, c1v2_, c2v2_, c3v2_, c4v2_, c5v2_, c6v2_, c7v2_, c8v2_, c9v2_, c10v2_, c11v2_, c12v2_, c13v2_, c14v2_, c15v2_, c16v2_, c17v2_, K1v2_, K2v2_, K3v2_, K4v2_, T9v2_, T10v2_, G1v2_, G2v2_, G3v2_, G4v2_, A9v2_, A0v2_, VSv2_, VKv2_, WSv2_, WKv2_, HBv2_, HDv2_⟩ := h2_
  have rv2_ : zRl M2_ := by
    have q0_ : M2_.1 8 1 = M2_.1 124 0 := by simp only [c0v2_, c1v2_, c2v2_, c3v2_, c4v2_, c5v2_, c6v2_, c7v2_, c8v2_, c9v2_, c10v2_, c11v2_, c12v2_, c13v2_, c14v2_, c15v2_, c16v2_, c17v2_, c0v1_, c1v1_, c2v1_, c3v1_, c4v1_, c5v1_, c6v1_, c7v1_, c8v1_, c9v1_, c10v1_, c11v1_, c12v1_, c13v1_, c14v1_, c15v1_, c16v1_, c17v1_, hi.2.1, hi.2.2.1, hi.2.2.2.1, hi.2.2.2.2.1, hi.2.2.2.2.2.1, hi.2.2.2.2.2.2.1, hi.2.2.2.2.2.2.2.1, hi.2.2.2.2.2.2.2.2.1, hi.2.2.2.2.2.2.2.2.2.1]
    have q1_ : M2_.1 9 1 = M2_.1 124 48 := by simp only [c0v2_, c1v2_, c2v2_, c3v2_, c4v2_, c5v2_, c6v2_, c7v2_, c8v2_, c9v2_, c10v2_, c11v2_, c12v2_, c13v2_, c14v2_, c15v2_, c16v2_, c17v2_, c0v1_, c1v1_, c2v1_, c3v1_, c4v1_, c5v1_, c6v1_, c7v1_, c8v1_, c9v1_, c10v1_, c11v1_, c12v1_, c13v1_, c14v1_, c15v1_, c16v1_, c17v1_, hi.2.1, hi.2.2.1, hi.2.2.2.1, hi.2.2.2.2.1, hi.2.2.2.2.2.1, hi.2.2.2.2.2.2.1, hi.2.2.2.2.2.2.2.1, hi.2.2.2.2.2.2.2.2.1, hi.2.2.2.2.2.2.2.2.2.1]
    have q2_ : M2_.1 0 5 = M2_.1 124 46 := by simp only [c0v2_, c1v2_, c2v2_, c3v2_, c4v2_, c5v2_, c6v2_, c7v2_, c8v2_, c9v2_, c10v2_, c11v2_, c12v2_, c13v2_, c14v2_, c15v2_, c16v2_, c17v2_, c0v1_, c1v1_, c2v1_, c3v1_, c4v1_, c5v1_, c6v1_, c7v1_, c8v1_, c9v1_, c10v1_, c11v1_, c12v1_, c13v1_, c14v1_, c15v1_, c16v1_, c17v1_, hi.2.1, hi.2.2.1, hi.2.2.2.1, hi.2.2.2.2.1, hi.2.2.2.2.2.1, hi.2.2.2.2.2.2.1, hi.2.2.2.2.2.2.2.1, hi.2.2.2.2.2.2.2.2.1, hi.2.2.2.2.2.2.2.2.2.1]
    have q3_ : M2_.1 101 0 = M2_.1 124 55 := by simp only [c0v2_, c1v2_, c2v2_, c3v2_, c4v2_, c5v2_, c6v2_, c7v2_, c8v2_, c9v2_, c10v2_, c11v2_, c12v2_, c13v2_, c14v2_, c15v2_, c16v2_, c17v2_, c0v1_, c1v1_, c2v1_, c3v1_, c4v1_, c5v1_, c6v1_, c7v1_, c8v1_, c9v1_, c10v1_, c11v1_, c12v1_, c13v1_, c14v1_, c15v1_, c16v1_, c17v1_, hi.2.1, hi.2.2.1, hi.2.2.2.1, hi.2.2.2.2.1, hi.2.2.2.2.2.1, hi.2.2.2.2.2.2.1, hi.2.2.2.2.2.2.2.1, hi.2.2.2.2.2.2.2.2.1, hi.2.2.2.2.2.2.2.2.2.1]
    have q4_ : M2_.1 100 0 = M2_.1 124 37 := by simp only [c0v2_, c1v2_, c2v2_, c3v2_, c4v2_, c5v2_, c6v2_, c7v2_, c8v2_, c9v2_, c10v2_, c11v2_, c12v2_, c13v2_, c14v2_, c15v2_, c16v2_, c17v2_, c0v1_, c1v1_, c2v1_, c3v1_, c4v1_, c5v1_, c6v1_, c7v1_, c8v1_, c9v1_, c10v1_, c11v1_, c12v1_, c13v1_, c14v1_, c15v1_, c16v1_, c17v1_, hi.2.1, hi.2.2.1, hi.2.2.2.1, hi.2.2.2.2.1, hi.2.2.2.2.2.1, hi.2.2.2.2.2.2.1, hi.2.2.2.2.2.2.2.1, hi.2.2.2.2.2.2.2.2.1, hi.2.2.2.2.2.2.2.2.2.1]
    have q5_ : M2_.1 102 0 = M2_.1 124 40 := by simp only [c0v2_, c1v2_, c2v2_, c3v2_, c4v2_, c5v2_, c6v2_, c7v2_, c8v2_, c9v2_, c10v2_, c11v2_, c12v2_, c13v2_, c14v2_, c15v2_, c16v2_, c17v2_, c0v1_, c1v1_, c2v1_, c3v1_, c4v1_, c5v1_, c6v1_, c7v1_, c8v1_, c9v1_, c10v1_, c11v1_, c12v1_, c13v1_, c14v1_, c15v1_, c16v1_, c17v1_, hi.2.1, hi.2.2.1, hi.2.2.2.1, hi.2.2.2.2.1, hi.2.2.2.2.2.1, hi.2.2.2.2.2.2.1, hi.2.2.2.2.2.2.2.1, hi.2.2.2.2.2.2.2.2.1, hi.2.2.2.2.2.2.2.2.2.1]
    have q6_ : M2_.1 103 0 = M2_.1 124 56 := by simp only [c0v2_, c1v2_, c2v2_, c3v2_, c4v2_, c5v2_, c6v2_, c7v2_, c8v2_, c9v2_, c10v2_, c11v2_, c12v2_, c13v2_, c14v2_, c15v2_, c16v2_, c17v2_, c0v1_, c1v1_, c2v1_, c3v1_, c4v1_, c5v1_, c6v1_, c7v1_, c8v1_, c9v1_, c10v1_, c11v1_, c12v1_, c13v1_, c14v1_, c15v1_, c16v1_, c17v1_, hi.2.1, hi.2.2.1, hi.2.2.2.1, hi.2.2.2.2.1, hi.2.2.2.2.2.1, hi.2.2.2.2.2.2.1, hi.2.2.2.2.2.2.2.1, hi.2.2.2.2.2.2.2.2.1, hi.2.2.2.2.2.2.2.2.2.1]
    have q7_ : M2_.1 104 0 = M2_.1 124 43 := by simp only [c0v2_, c1v2_, c2v2_, c3v2_, c4v2_, c5v2_, c6v2_, c7v2_, c8v2_, c9v2_, c10v2_, c11v2_, c12v2_, c13v2_, c14v2_, c15v2_, c16v2_, c17v2_, c0v1_, c1v1_, c2v1_, c3v1_, c4v1_, c5v1_, c6v1_, c7v1_, c8v1_, c9v1_, c10v1_, c11v1_, c12v1_, c13v1_, c14v1_, c15v1_, c16v1_, c17v1_, hi.2.1, hi.2.2.1, hi.2.2.2.1, hi.2.2.2.2.1, hi.2.2.2.2.2.1, hi.2.2.2.2.2.2.1, hi.2.2.2.2.2.2.2.1, hi.2.2.2.2.2.2.2.2.1, hi.2.2.2.2.2.2.2.2.2.1]
    have q8_ : M2_.1 105 0 = M2_.1 124 57 := by simp only [c0v2_, c1v2_, c2v2_, c3v2_, c4v2_, c5v2_, c6v2_, c7v2_, c8v2_, c9v2_, c10v2_, c11v2_, c12v2_, c13v2_, c14v2_, c15v2_, c16v2_, c17v2_, c0v1_, c1v1_, c2v1_, c3v1_, c4v1_, c5v1_, c6v1_, c7v1_, c8v1_, c9v1_, c10v1_, c11v1_, c12v1_, c13v1_, c14v1_, c15v1_, c16v1_, c17v1_, hi.2.1, hi.2.2.1, hi.2.2.2.1, hi.2.2.2.2.1, hi.2.2.2.2.2.1, hi.2.2.2.2.2.2.1, hi.2.2.2.2.2.2.2.1, hi.2.2.2.2.2.2.2.2.1, hi.2.2.2.2.2.2.2.2.2.1]
    exact ⟨q0_, q1_, q2_, q3_, q4_, q5_, q6_, q7_, q8_, zP1_k hi.2.2.2.2.2.2.2.2.2.2.1 (c0v2_.trans c0v1_) (zKc_t K1v1_ K1v2_) (zKm_t K3v1_ K3v2_), zP2_k hi.2.2.2.2.2.2.2.2.2.2.2.1 (c2v2_.trans c2v1_) (zKc_t K2v1_ K2v2_) (zKm_t K4v1_ K4v2_), zPT_k hi.2.2.2.2.2.2.2.2.2.2.2.2.1 T9v1_ T10v1_ T9v2_ T10v2_, zRr_k hi.2.2.2.2.2.2.2.2.2.2.2.2.2.1 (c8v2_.trans c8v1_) G1v1_ G3v1_ G1v2_ G3v2_, zRr_k hi.2.2.2.2.2.2.2.2.2.2.2.2.2.2.1 (c6v2_.trans c6v1_) G2v1_ G4v1_ G2v2_ G4v2_, zPH_k hi.2.2.2.2.2.2.2.2.2.2.2.2.2.2.2.1 A9v1_ A0v1_ A9v2_ A0v2_, zVe_k hi.2.2.2.2.2.2.2.2.2.2.2.2.2.2.2.2.1 (c0v2_.trans c0v1_) VSv1_ WSv1_ VSv2_ WSv2_, zVe_k hi.2.2.2.2.2.2.2.2.2.2.2.2.2.2.2.2.2.1 (c2v2_.trans c2v1_) VKv1_ WKv1_ VKv2_ WKv2_, zHW_d hi.1.1 hi.2.2.2.2.2.2.2.2.2.2.2.2.2.2.2.2.2.2 HBv1_ HDv1_ HBv2_ HDv2_⟩
  refine zr_pop C dL_law_792 rfl ?_
  refine zr_goto (tgt := 1337) C dL_law_793 (by decide) ?_
  exact kk M2_ ⟨iv2_, rv2_⟩
set_option maxRecDepth 10000 in
theorem zl_case_22 (htab : pvTab) {p : Program} {l : Launch} {e : Env} {s : State} {m : MethodId} {below : List Frame} {meth : Method} {c : Code} {b L : Nat} {xs : Nat → Int32} {D : va_G} {y : Nat → ClassId} {ad : Nat → Nat} {ls : Array Slot} {i : Int32} {Q : State → Prop} {M : pvM} (C : zLc p s m c b L xs D y ad ls i) (hi : zIR M) (kk : ∀ M1, zIR M1 → zLW p l e s m below meth c b D y ad ls Q 1337 [] M1) : zLW p l e s m below meth c b D y ad ls Q 796 [] M := by
  refine zr_x C dL_law_796 ?_
  refine zr_arg 1 C dL_law_797 dL_law_798 dL_law_799 dL_law_800 dL_law_801 (by decide) (by decide) ?_
  refine zr_arg 2 C dL_law_802 dL_law_803 dL_law_804 dL_law_805 dL_law_806 (by decide) (by decide) ?_
  refine zr_call htab (j := 197) (n := 2) (q := 0) (as := [pvI (xs (i + 1).toNatClampNeg), pvI (xs (i + 2).toNatClampNeg)]) (rest := []) C rfl rfl rfl rfl (lw_X9_see M hi.1 (xs (i + 1).toNatClampNeg) (xs (i + 2).toNatClampNeg)) (zgV zm_997 zm_998 zm_999 zm_2 zm_1000) (by decide +kernel) rfl rfl rfl dL_law_807 rfl rfl (fun r M1_ h1_ => ?_)
  obtain ⟨⟨v1_, rfl, ev1_⟩, iv1_, c0v1_, c1v1_, c2v1_, c3v1_, c4v1_, c5v1_, c6v1_, c7v1_, c8v1_, c9v1_, c10v1_, c11v1_, c12v1_, c13v1_, c14v1_, c15v1_, c16v1_, c17v1_, K1v1_, K2v1_, K3v1_, K4v1_, T9v1_, T10v1_, G1v1_, G2v1_, G3v1_, G4v1_, A9v1_, A0v1_, VSv1_, VKv1_, WSv1_, WKv1_, HBv1_, HDv1_⟩ := h1_
  refine zr_pop C dL_law_810 rfl ?_
  refine zr_m C dL_law_811 ?_
  refine zr_arg 1 C dL_law_812 dL_law_813 dL_law_814 dL_law_815 dL_law_816 (by decide) (by decide) ?_
  refine zr_arg 2 C dL_law_817 dL_law_818 dL_law_819 dL_law_820 dL_law_821 (by decide) (by decide) ?_
  refine zr_call htab (j := 71) (n := 2) (q := 124) (as := [pvI (xs (i + 1).toNatClampNeg), pvI (xs (i + 2).toNatClampNeg)]) (rest := []) C rfl rfl rfl rfl (lw_X10_see M1_ iv1_ (xs (i + 1).toNatClampNeg) (xs (i + 2).toNatClampNeg)) (zgV zm_1006 zm_1007 zm_1008 zm_5 zm_1009) (by decide +kernel) rfl rfl rfl dL_law_822 rfl rfl (fun r M2_ h2_ => ?_)
  obtain ⟨⟨v2_, rfl, ev2_⟩, iv2_, c0v2_, c1v2_, c2v2_, c3v2_, c4v2_, c5v2_, c6v2_, c7v2_, c8v2_, c9v2_, c10v2_, c11v2_, c12v2_, c13v2_, c14v2_, c15v2_, c16v2_, c17v2_, K1v2_, K2v2_, K3v2_, K4v2_, T9v2_, T10v2_, G1v2_, G2v2_, G3v2_, G4v2_, A9v2_, A0v2_, VSv2_, VKv2_, WSv2_, WKv2_, HBv2_, HDv2_⟩ := h2_
  have rv2_ : zRl M2_ := by
    have q0_ : M2_.1 8 1 = M2_.1 124 0 := by simp only [c0v2_, c1v2_, c2v2_, c3v2_, c4v2_, c5v2_, c6v2_, c7v2_, c8v2_, c9v2_, c10v2_, c11v2_, c12v2_, c13v2_, c14v2_, c15v2_, c16v2_, c17v2_, c0v1_, c1v1_, c2v1_, c3v1_, c4v1_, c5v1_, c6v1_, c7v1_, c8v1_, c9v1_, c10v1_, c11v1_, c12v1_, c13v1_, c14v1_, c15v1_, c16v1_, c17v1_, hi.2.1, hi.2.2.1, hi.2.2.2.1, hi.2.2.2.2.1, hi.2.2.2.2.2.1, hi.2.2.2.2.2.2.1, hi.2.2.2.2.2.2.2.1, hi.2.2.2.2.2.2.2.2.1, hi.2.2.2.2.2.2.2.2.2.1]
    have q1_ : M2_.1 9 1 = M2_.1 124 48 := by simp only [c0v2_, c1v2_, c2v2_, c3v2_, c4v2_, c5v2_, c6v2_, c7v2_, c8v2_, c9v2_, c10v2_, c11v2_, c12v2_, c13v2_, c14v2_, c15v2_, c16v2_, c17v2_, c0v1_, c1v1_, c2v1_, c3v1_, c4v1_, c5v1_, c6v1_, c7v1_, c8v1_, c9v1_, c10v1_, c11v1_, c12v1_, c13v1_, c14v1_, c15v1_, c16v1_, c17v1_, hi.2.1, hi.2.2.1, hi.2.2.2.1, hi.2.2.2.2.1, hi.2.2.2.2.2.1, hi.2.2.2.2.2.2.1, hi.2.2.2.2.2.2.2.1, hi.2.2.2.2.2.2.2.2.1, hi.2.2.2.2.2.2.2.2.2.1]
    have q2_ : M2_.1 0 5 = M2_.1 124 46 := by simp only [c0v2_, c1v2_, c2v2_, c3v2_, c4v2_, c5v2_, c6v2_, c7v2_, c8v2_, c9v2_, c10v2_, c11v2_, c12v2_, c13v2_, c14v2_, c15v2_, c16v2_, c17v2_, c0v1_, c1v1_, c2v1_, c3v1_, c4v1_, c5v1_, c6v1_, c7v1_, c8v1_, c9v1_, c10v1_, c11v1_, c12v1_, c13v1_, c14v1_, c15v1_, c16v1_, c17v1_, hi.2.1, hi.2.2.1, hi.2.2.2.1, hi.2.2.2.2.1, hi.2.2.2.2.2.1, hi.2.2.2.2.2.2.1, hi.2.2.2.2.2.2.2.1, hi.2.2.2.2.2.2.2.2.1, hi.2.2.2.2.2.2.2.2.2.1]
    have q3_ : M2_.1 101 0 = M2_.1 124 55 := by simp only [c0v2_, c1v2_, c2v2_, c3v2_, c4v2_, c5v2_, c6v2_, c7v2_, c8v2_, c9v2_, c10v2_, c11v2_, c12v2_, c13v2_, c14v2_, c15v2_, c16v2_, c17v2_, c0v1_, c1v1_, c2v1_, c3v1_, c4v1_, c5v1_, c6v1_, c7v1_, c8v1_, c9v1_, c10v1_, c11v1_, c12v1_, c13v1_, c14v1_, c15v1_, c16v1_, c17v1_, hi.2.1, hi.2.2.1, hi.2.2.2.1, hi.2.2.2.2.1, hi.2.2.2.2.2.1, hi.2.2.2.2.2.2.1, hi.2.2.2.2.2.2.2.1, hi.2.2.2.2.2.2.2.2.1, hi.2.2.2.2.2.2.2.2.2.1]
    have q4_ : M2_.1 100 0 = M2_.1 124 37 := by simp only [c0v2_, c1v2_, c2v2_, c3v2_, c4v2_, c5v2_, c6v2_, c7v2_, c8v2_, c9v2_, c10v2_, c11v2_, c12v2_, c13v2_, c14v2_, c15v2_, c16v2_, c17v2_, c0v1_, c1v1_, c2v1_, c3v1_, c4v1_, c5v1_, c6v1_, c7v1_, c8v1_, c9v1_, c10v1_, c11v1_, c12v1_, c13v1_, c14v1_, c15v1_, c16v1_, c17v1_, hi.2.1, hi.2.2.1, hi.2.2.2.1, hi.2.2.2.2.1, hi.2.2.2.2.2.1, hi.2.2.2.2.2.2.1, hi.2.2.2.2.2.2.2.1, hi.2.2.2.2.2.2.2.2.1, hi.2.2.2.2.2.2.2.2.2.1]
    have q5_ : M2_.1 102 0 = M2_.1 124 40 := by simp only [c0v2_, c1v2_, c2v2_, c3v2_, c4v2_, c5v2_, c6v2_, c7v2_, c8v2_, c9v2_, c10v2_, c11v2_, c12v2_, c13v2_, c14v2_, c15v2_, c16v2_, c17v2_, c0v1_, c1v1_, c2v1_, c3v1_, c4v1_, c5v1_, c6v1_, c7v1_, c8v1_, c9v1_, c10v1_, c11v1_, c12v1_, c13v1_, c14v1_, c15v1_, c16v1_, c17v1_, hi.2.1, hi.2.2.1, hi.2.2.2.1, hi.2.2.2.2.1, hi.2.2.2.2.2.1, hi.2.2.2.2.2.2.1, hi.2.2.2.2.2.2.2.1, hi.2.2.2.2.2.2.2.2.1, hi.2.2.2.2.2.2.2.2.2.1]; exact zc_see_0 _ _ _ _ (pvok_r hi.1.1 124 0 rfl) (pvok_r hi.1.1 124 40 rfl)
    have q6_ : M2_.1 103 0 = M2_.1 124 56 := by simp only [c0v2_, c1v2_, c2v2_, c3v2_, c4v2_, c5v2_, c6v2_, c7v2_, c8v2_, c9v2_, c10v2_, c11v2_, c12v2_, c13v2_, c14v2_, c15v2_, c16v2_, c17v2_, c0v1_, c1v1_, c2v1_, c3v1_, c4v1_, c5v1_, c6v1_, c7v1_, c8v1_, c9v1_, c10v1_, c11v1_, c12v1_, c13v1_, c14v1_, c15v1_, c16v1_, c17v1_, hi.2.1, hi.2.2.1, hi.2.2.2.1, hi.2.2.2.2.1, hi.2.2.2.2.2.1, hi.2.2.2.2.2.2.1, hi.2.2.2.2.2.2.2.1, hi.2.2.2.2.2.2.2.2.1, hi.2.2.2.2.2.2.2.2.2.1]
    have q7_ : M2_.1 104 0 = M2_.1 124 43 := by simp only [c0v2_, c1v2_, c2v2_, c3v2_, c4v2_, c5v2_, c6v2_, c7v2_, c8v2_, c9v2_, c10v2_, c11v2_, c12v2_, c13v2_, c14v2_, c15v2_, c16v2_, c17v2_, c0v1_, c1v1_, c2v1_, c3v1_, c4v1_, c5v1_, c6v1_, c7v1_, c8v1_, c9v1_, c10v1_, c11v1_, c12v1_, c13v1_, c14v1_, c15v1_, c16v1_, c17v1_, hi.2.1, hi.2.2.1, hi.2.2.2.1, hi.2.2.2.2.1, hi.2.2.2.2.2.1, hi.2.2.2.2.2.2.1, hi.2.2.2.2.2.2.2.1, hi.2.2.2.2.2.2.2.2.1, hi.2.2.2.2.2.2.2.2.2.1]
    have q8_ : M2_.1 105 0 = M2_.1 124 57 := by simp only [c0v2_, c1v2_, c2v2_, c3v2_, c4v2_, c5v2_, c6v2_, c7v2_, c8v2_, c9v2_, c10v2_, c11v2_, c12v2_, c13v2_, c14v2_, c15v2_, c16v2_, c17v2_, c0v1_, c1v1_, c2v1_, c3v1_, c4v1_, c5v1_, c6v1_, c7v1_, c8v1_, c9v1_, c10v1_, c11v1_, c12v1_, c13v1_, c14v1_, c15v1_, c16v1_, c17v1_, hi.2.1, hi.2.2.1, hi.2.2.2.1, hi.2.2.2.2.1, hi.2.2.2.2.2.1, hi.2.2.2.2.2.2.1, hi.2.2.2.2.2.2.2.1, hi.2.2.2.2.2.2.2.2.1, hi.2.2.2.2.2.2.2.2.2.1]
    exact ⟨q0_, q1_, q2_, q3_, q4_, q5_, q6_, q7_, q8_, zP1_k hi.2.2.2.2.2.2.2.2.2.2.1 (c0v2_.trans c0v1_) (zKc_t K1v1_ K1v2_) (zKm_t K3v1_ K3v2_), zP2_k hi.2.2.2.2.2.2.2.2.2.2.2.1 (c2v2_.trans c2v1_) (zKc_t K2v1_ K2v2_) (zKm_t K4v1_ K4v2_), zPT_k hi.2.2.2.2.2.2.2.2.2.2.2.2.1 T9v1_ T10v1_ T9v2_ T10v2_, zRr_k hi.2.2.2.2.2.2.2.2.2.2.2.2.2.1 (c8v2_.trans c8v1_) G1v1_ G3v1_ G1v2_ G3v2_, zRr_k hi.2.2.2.2.2.2.2.2.2.2.2.2.2.2.1 (c6v2_.trans c6v1_) G2v1_ G4v1_ G2v2_ G4v2_, zPH_k hi.2.2.2.2.2.2.2.2.2.2.2.2.2.2.2.1 A9v1_ A0v1_ A9v2_ A0v2_, zVe_k hi.2.2.2.2.2.2.2.2.2.2.2.2.2.2.2.2.1 (c0v2_.trans c0v1_) VSv1_ WSv1_ VSv2_ WSv2_, zVe_k hi.2.2.2.2.2.2.2.2.2.2.2.2.2.2.2.2.2.1 (c2v2_.trans c2v1_) VKv1_ WKv1_ VKv2_ WKv2_, zHW_d hi.1.1 hi.2.2.2.2.2.2.2.2.2.2.2.2.2.2.2.2.2.2 HBv1_ HDv1_ HBv2_ HDv2_⟩
  refine zr_pop C dL_law_825 rfl ?_
  refine zr_goto (tgt := 1337) C dL_law_826 (by decide) ?_
  exact kk M2_ ⟨iv2_, rv2_⟩
set_option maxRecDepth 10000 in
theorem zl_case_23 (htab : pvTab) {p : Program} {l : Launch} {e : Env} {s : State} {m : MethodId} {below : List Frame} {meth : Method} {c : Code} {b L : Nat} {xs : Nat → Int32} {D : va_G} {y : Nat → ClassId} {ad : Nat → Nat} {ls : Array Slot} {i : Int32} {Q : State → Prop} {M : pvM} (C : zLc p s m c b L xs D y ad ls i) (hi : zIR M) (kk : ∀ M1, zIR M1 → zLW p l e s m below meth c b D y ad ls Q 1337 [] M1) : zLW p l e s m below meth c b D y ad ls Q 829 [] M := by
  refine zr_x C dL_law_829 ?_
  refine zr_call htab (j := 174) (n := 0) (q := 0) (as := []) (rest := []) C rfl rfl rfl rfl (lw_X9_from M hi.1) (zgV zm_1010 zm_1011 zm_1012 zm_2 zm_1013) (by decide +kernel) rfl rfl rfl dL_law_830 rfl rfl (fun r M1_ h1_ => ?_)
  obtain ⟨⟨v1_, rfl⟩, iv1_, c0v1_, c1v1_, c2v1_, c3v1_, c4v1_, c5v1_, c6v1_, c7v1_, c8v1_, c9v1_, c10v1_, c11v1_, c12v1_, c13v1_, c14v1_, c15v1_, c16v1_, c17v1_, K1v1_, K2v1_, K3v1_, K4v1_, T9v1_, T10v1_, G1v1_, G2v1_, G3v1_, G4v1_, A9v1_, A0v1_, VSv1_, VKv1_, WSv1_, WKv1_, HBv1_, HDv1_⟩ := h1_
  refine zr_pop C dL_law_833 rfl ?_
  refine zr_m C dL_law_834 ?_
  refine zr_call htab (j := 22) (n := 0) (q := 124) (as := []) (rest := []) C rfl rfl rfl rfl (lw_X10_from M1_ iv1_) (zgV zm_1020 zm_1021 zm_1022 zm_5 zm_1023) (by decide +kernel) rfl rfl rfl dL_law_835 rfl rfl (fun r M2_ h2_ => ?_)
  obtain ⟨⟨v2_, rfl⟩, iv2_, c0v2_, c1v2_, c2v2_, c3v2_, c4v2_, c5v2_, c6v2_, c7v2_, c8v2_, c9v2_, c10v2_, c11v2_, c12v2_, c13v2_, c14v2_, c15v2_, c16v2_, c17v2_, K1v2_, K2v2_, K3v2_, K4v2_, T9v2_, T10v2_, G1v2_, G2v2_, G3v2_, G4v2_, A9v2_, A0v2_, VSv2_, VKv2_, WSv2_, WKv2_, HBv2_, HDv2_⟩ := h2_
  have rv2_ : zRl M2_ := by
    have q0_ : M2_.1 8 1 = M2_.1 124 0 := by simp only [c0v2_, c1v2_, c2v2_, c3v2_, c4v2_, c5v2_, c6v2_, c7v2_, c8v2_, c9v2_, c10v2_, c11v2_, c12v2_, c13v2_, c14v2_, c15v2_, c16v2_, c17v2_, c0v1_, c1v1_, c2v1_, c3v1_, c4v1_, c5v1_, c6v1_, c7v1_, c8v1_, c9v1_, c10v1_, c11v1_, c12v1_, c13v1_, c14v1_, c15v1_, c16v1_, c17v1_, hi.2.1, hi.2.2.1, hi.2.2.2.1, hi.2.2.2.2.1, hi.2.2.2.2.2.1, hi.2.2.2.2.2.2.1, hi.2.2.2.2.2.2.2.1, hi.2.2.2.2.2.2.2.2.1, hi.2.2.2.2.2.2.2.2.2.1]
    have q1_ : M2_.1 9 1 = M2_.1 124 48 := by simp only [c0v2_, c1v2_, c2v2_, c3v2_, c4v2_, c5v2_, c6v2_, c7v2_, c8v2_, c9v2_, c10v2_, c11v2_, c12v2_, c13v2_, c14v2_, c15v2_, c16v2_, c17v2_, c0v1_, c1v1_, c2v1_, c3v1_, c4v1_, c5v1_, c6v1_, c7v1_, c8v1_, c9v1_, c10v1_, c11v1_, c12v1_, c13v1_, c14v1_, c15v1_, c16v1_, c17v1_, hi.2.1, hi.2.2.1, hi.2.2.2.1, hi.2.2.2.2.1, hi.2.2.2.2.2.1, hi.2.2.2.2.2.2.1, hi.2.2.2.2.2.2.2.1, hi.2.2.2.2.2.2.2.2.1, hi.2.2.2.2.2.2.2.2.2.1]
    have q2_ : M2_.1 0 5 = M2_.1 124 46 := by simp only [c0v2_, c1v2_, c2v2_, c3v2_, c4v2_, c5v2_, c6v2_, c7v2_, c8v2_, c9v2_, c10v2_, c11v2_, c12v2_, c13v2_, c14v2_, c15v2_, c16v2_, c17v2_, c0v1_, c1v1_, c2v1_, c3v1_, c4v1_, c5v1_, c6v1_, c7v1_, c8v1_, c9v1_, c10v1_, c11v1_, c12v1_, c13v1_, c14v1_, c15v1_, c16v1_, c17v1_, hi.2.1, hi.2.2.1, hi.2.2.2.1, hi.2.2.2.2.1, hi.2.2.2.2.2.1, hi.2.2.2.2.2.2.1, hi.2.2.2.2.2.2.2.1, hi.2.2.2.2.2.2.2.2.1, hi.2.2.2.2.2.2.2.2.2.1]
    have q3_ : M2_.1 101 0 = M2_.1 124 55 := by simp only [c0v2_, c1v2_, c2v2_, c3v2_, c4v2_, c5v2_, c6v2_, c7v2_, c8v2_, c9v2_, c10v2_, c11v2_, c12v2_, c13v2_, c14v2_, c15v2_, c16v2_, c17v2_, c0v1_, c1v1_, c2v1_, c3v1_, c4v1_, c5v1_, c6v1_, c7v1_, c8v1_, c9v1_, c10v1_, c11v1_, c12v1_, c13v1_, c14v1_, c15v1_, c16v1_, c17v1_, hi.2.1, hi.2.2.1, hi.2.2.2.1, hi.2.2.2.2.1, hi.2.2.2.2.2.1, hi.2.2.2.2.2.2.1, hi.2.2.2.2.2.2.2.1, hi.2.2.2.2.2.2.2.2.1, hi.2.2.2.2.2.2.2.2.2.1]
    have q4_ : M2_.1 100 0 = M2_.1 124 37 := by simp only [c0v2_, c1v2_, c2v2_, c3v2_, c4v2_, c5v2_, c6v2_, c7v2_, c8v2_, c9v2_, c10v2_, c11v2_, c12v2_, c13v2_, c14v2_, c15v2_, c16v2_, c17v2_, c0v1_, c1v1_, c2v1_, c3v1_, c4v1_, c5v1_, c6v1_, c7v1_, c8v1_, c9v1_, c10v1_, c11v1_, c12v1_, c13v1_, c14v1_, c15v1_, c16v1_, c17v1_, hi.2.1, hi.2.2.1, hi.2.2.2.1, hi.2.2.2.2.1, hi.2.2.2.2.2.1, hi.2.2.2.2.2.2.1, hi.2.2.2.2.2.2.2.1, hi.2.2.2.2.2.2.2.2.1, hi.2.2.2.2.2.2.2.2.2.1]
    have q5_ : M2_.1 102 0 = M2_.1 124 40 := by simp only [c0v2_, c1v2_, c2v2_, c3v2_, c4v2_, c5v2_, c6v2_, c7v2_, c8v2_, c9v2_, c10v2_, c11v2_, c12v2_, c13v2_, c14v2_, c15v2_, c16v2_, c17v2_, c0v1_, c1v1_, c2v1_, c3v1_, c4v1_, c5v1_, c6v1_, c7v1_, c8v1_, c9v1_, c10v1_, c11v1_, c12v1_, c13v1_, c14v1_, c15v1_, c16v1_, c17v1_, hi.2.1, hi.2.2.1, hi.2.2.2.1, hi.2.2.2.2.1, hi.2.2.2.2.2.1, hi.2.2.2.2.2.2.1, hi.2.2.2.2.2.2.2.1, hi.2.2.2.2.2.2.2.2.1, hi.2.2.2.2.2.2.2.2.2.1]
    have q6_ : M2_.1 103 0 = M2_.1 124 56 := by simp only [c0v2_, c1v2_, c2v2_, c3v2_, c4v2_, c5v2_, c6v2_, c7v2_, c8v2_, c9v2_, c10v2_, c11v2_, c12v2_, c13v2_, c14v2_, c15v2_, c16v2_, c17v2_, c0v1_, c1v1_, c2v1_, c3v1_, c4v1_, c5v1_, c6v1_, c7v1_, c8v1_, c9v1_, c10v1_, c11v1_, c12v1_, c13v1_, c14v1_, c15v1_, c16v1_, c17v1_, hi.2.1, hi.2.2.1, hi.2.2.2.1, hi.2.2.2.2.1, hi.2.2.2.2.2.1, hi.2.2.2.2.2.2.1, hi.2.2.2.2.2.2.2.1, hi.2.2.2.2.2.2.2.2.1, hi.2.2.2.2.2.2.2.2.2.1]
    have q7_ : M2_.1 104 0 = M2_.1 124 43 := by simp only [c0v2_, c1v2_, c2v2_, c3v2_, c4v2_, c5v2_, c6v2_, c7v2_, c8v2_, c9v2_, c10v2_, c11v2_, c12v2_, c13v2_, c14v2_, c15v2_, c16v2_, c17v2_, c0v1_, c1v1_, c2v1_, c3v1_, c4v1_, c5v1_, c6v1_, c7v1_, c8v1_, c9v1_, c10v1_, c11v1_, c12v1_, c13v1_, c14v1_, c15v1_, c16v1_, c17v1_, hi.2.1, hi.2.2.1, hi.2.2.2.1, hi.2.2.2.2.1, hi.2.2.2.2.2.1, hi.2.2.2.2.2.2.1, hi.2.2.2.2.2.2.2.1, hi.2.2.2.2.2.2.2.2.1, hi.2.2.2.2.2.2.2.2.2.1]
    have q8_ : M2_.1 105 0 = M2_.1 124 57 := by simp only [c0v2_, c1v2_, c2v2_, c3v2_, c4v2_, c5v2_, c6v2_, c7v2_, c8v2_, c9v2_, c10v2_, c11v2_, c12v2_, c13v2_, c14v2_, c15v2_, c16v2_, c17v2_, c0v1_, c1v1_, c2v1_, c3v1_, c4v1_, c5v1_, c6v1_, c7v1_, c8v1_, c9v1_, c10v1_, c11v1_, c12v1_, c13v1_, c14v1_, c15v1_, c16v1_, c17v1_, hi.2.1, hi.2.2.1, hi.2.2.2.1, hi.2.2.2.2.1, hi.2.2.2.2.2.1, hi.2.2.2.2.2.2.1, hi.2.2.2.2.2.2.2.1, hi.2.2.2.2.2.2.2.2.1, hi.2.2.2.2.2.2.2.2.2.1]
    exact ⟨q0_, q1_, q2_, q3_, q4_, q5_, q6_, q7_, q8_, zP1_k hi.2.2.2.2.2.2.2.2.2.2.1 (c0v2_.trans c0v1_) (zKc_t K1v1_ K1v2_) (zKm_t K3v1_ K3v2_), zP2_k hi.2.2.2.2.2.2.2.2.2.2.2.1 (c2v2_.trans c2v1_) (zKc_t K2v1_ K2v2_) (zKm_t K4v1_ K4v2_), zPT_k hi.2.2.2.2.2.2.2.2.2.2.2.2.1 T9v1_ T10v1_ T9v2_ T10v2_, zRr_k hi.2.2.2.2.2.2.2.2.2.2.2.2.2.1 (c8v2_.trans c8v1_) G1v1_ G3v1_ G1v2_ G3v2_, zRr_k hi.2.2.2.2.2.2.2.2.2.2.2.2.2.2.1 (c6v2_.trans c6v1_) G2v1_ G4v1_ G2v2_ G4v2_, zPH_k hi.2.2.2.2.2.2.2.2.2.2.2.2.2.2.2.1 A9v1_ A0v1_ A9v2_ A0v2_, zVe_k hi.2.2.2.2.2.2.2.2.2.2.2.2.2.2.2.2.1 (c0v2_.trans c0v1_) VSv1_ WSv1_ VSv2_ WSv2_, zVe_k hi.2.2.2.2.2.2.2.2.2.2.2.2.2.2.2.2.2.1 (c2v2_.trans c2v1_) VKv1_ WKv1_ VKv2_ WKv2_, zHW_d hi.1.1 hi.2.2.2.2.2.2.2.2.2.2.2.2.2.2.2.2.2.2 HBv1_ HDv1_ HBv2_ HDv2_⟩
  refine zr_pop C dL_law_838 rfl ?_
  refine zr_goto (tgt := 1337) C dL_law_839 (by decide) ?_
  exact kk M2_ ⟨iv2_, rv2_⟩
set_option maxRecDepth 10000 in
theorem zl_case_24 (htab : pvTab) {p : Program} {l : Launch} {e : Env} {s : State} {m : MethodId} {below : List Frame} {meth : Method} {c : Code} {b L : Nat} {xs : Nat → Int32} {D : va_G} {y : Nat → ClassId} {ad : Nat → Nat} {ls : Array Slot} {i : Int32} {Q : State → Prop} {M : pvM} (C : zLc p s m c b L xs D y ad ls i) (hi : zIR M) (kk : ∀ M1, zIR M1 → zLW p l e s m below meth c b D y ad ls Q 1337 [] M1) : zLW p l e s m below meth c b D y ad ls Q 842 [] M := by
  refine zr_x C dL_law_842 ?_
  refine zr_arg 1 C dL_law_843 dL_law_844 dL_law_845 dL_law_846 dL_law_847 (by decide) (by decide) ?_
  refine zr_arg 2 C dL_law_848 dL_law_849 dL_law_850 dL_law_851 dL_law_852 (by decide) (by decide) ?_
  refine zr_call htab (j := 188) (n := 2) (q := 0) (as := [pvI (xs (i + 1).toNatClampNeg), pvI (xs (i + 2).toNatClampNeg)]) (rest := []) C rfl rfl rfl rfl (lw_X9_odds M hi.1 (xs (i + 1).toNatClampNeg) (xs (i + 2).toNatClampNeg)) (zgV zm_1028 zm_1029 zm_1030 zm_2 zm_1031) (by decide +kernel) rfl rfl rfl dL_law_853 rfl rfl (fun r M1_ h1_ => ?_)
  obtain ⟨⟨v1_, rfl⟩, iv1_, c0v1_, c1v1_, c2v1_, c3v1_, c4v1_, c5v1_, c6v1_, c7v1_, c8v1_, c9v1_, c10v1_, c11v1_, c12v1_, c13v1_, c14v1_, c15v1_, c16v1_, c17v1_, K1v1_, K2v1_, K3v1_, K4v1_, T9v1_, T10v1_, G1v1_, G2v1_, G3v1_, G4v1_, A9v1_, A0v1_, VSv1_, VKv1_, WSv1_, WKv1_, HBv1_, HDv1_⟩ := h1_
  refine zr_pop2 C dL_law_856 rfl ?_
  refine zr_m C dL_law_857 ?_
  refine zr_arg 1 C dL_law_858 dL_law_859 dL_law_860 dL_law_861 dL_law_862 (by decide) (by decide) ?_
  refine zr_arg 2 C dL_law_863 dL_law_864 dL_law_865 dL_law_866 dL_law_867 (by decide) (by decide) ?_
  refine zr_call htab (j := 58) (n := 2) (q := 124) (as := [pvI (xs (i + 1).toNatClampNeg), pvI (xs (i + 2).toNatClampNeg)]) (rest := []) C rfl rfl rfl rfl (lw_X10_odds M1_ iv1_ (xs (i + 1).toNatClampNeg) (xs (i + 2).toNatClampNeg)) (zgV zm_1040 zm_1041 zm_1042 zm_5 zm_1043) (by decide +kernel) rfl rfl rfl dL_law_868 rfl rfl (fun r M2_ h2_ => ?_)
  obtain ⟨⟨v2_, rfl⟩, iv2_, c0v2_, c1v2_, c2v2_, c3v2_, c4v2_, c5v2_, c6v2_, c7v2_, c8v2_, c9v2_, c10v2_, c11v2_, c12v2_, c13v2_, c14v2_, c15v2_, c16v2_, c17v2_, K1v2_, K2v2_, K3v2_, K4v2_, T9v2_, T10v2_, G1v2_, G2v2_, G3v2_, G4v2_, A9v2_, A0v2_, VSv2_, VKv2_, WSv2_, WKv2_, HBv2_, HDv2_⟩ := h2_
  have rv2_ : zRl M2_ := by
    have q0_ : M2_.1 8 1 = M2_.1 124 0 := by simp only [c0v2_, c1v2_, c2v2_, c3v2_, c4v2_, c5v2_, c6v2_, c7v2_, c8v2_, c9v2_, c10v2_, c11v2_, c12v2_, c13v2_, c14v2_, c15v2_, c16v2_, c17v2_, c0v1_, c1v1_, c2v1_, c3v1_, c4v1_, c5v1_, c6v1_, c7v1_, c8v1_, c9v1_, c10v1_, c11v1_, c12v1_, c13v1_, c14v1_, c15v1_, c16v1_, c17v1_, hi.2.1, hi.2.2.1, hi.2.2.2.1, hi.2.2.2.2.1, hi.2.2.2.2.2.1, hi.2.2.2.2.2.2.1, hi.2.2.2.2.2.2.2.1, hi.2.2.2.2.2.2.2.2.1, hi.2.2.2.2.2.2.2.2.2.1]
    have q1_ : M2_.1 9 1 = M2_.1 124 48 := by simp only [c0v2_, c1v2_, c2v2_, c3v2_, c4v2_, c5v2_, c6v2_, c7v2_, c8v2_, c9v2_, c10v2_, c11v2_, c12v2_, c13v2_, c14v2_, c15v2_, c16v2_, c17v2_, c0v1_, c1v1_, c2v1_, c3v1_, c4v1_, c5v1_, c6v1_, c7v1_, c8v1_, c9v1_, c10v1_, c11v1_, c12v1_, c13v1_, c14v1_, c15v1_, c16v1_, c17v1_, hi.2.1, hi.2.2.1, hi.2.2.2.1, hi.2.2.2.2.1, hi.2.2.2.2.2.1, hi.2.2.2.2.2.2.1, hi.2.2.2.2.2.2.2.1, hi.2.2.2.2.2.2.2.2.1, hi.2.2.2.2.2.2.2.2.2.1]
    have q2_ : M2_.1 0 5 = M2_.1 124 46 := by simp only [c0v2_, c1v2_, c2v2_, c3v2_, c4v2_, c5v2_, c6v2_, c7v2_, c8v2_, c9v2_, c10v2_, c11v2_, c12v2_, c13v2_, c14v2_, c15v2_, c16v2_, c17v2_, c0v1_, c1v1_, c2v1_, c3v1_, c4v1_, c5v1_, c6v1_, c7v1_, c8v1_, c9v1_, c10v1_, c11v1_, c12v1_, c13v1_, c14v1_, c15v1_, c16v1_, c17v1_, hi.2.1, hi.2.2.1, hi.2.2.2.1, hi.2.2.2.2.1, hi.2.2.2.2.2.1, hi.2.2.2.2.2.2.1, hi.2.2.2.2.2.2.2.1, hi.2.2.2.2.2.2.2.2.1, hi.2.2.2.2.2.2.2.2.2.1]
    have q3_ : M2_.1 101 0 = M2_.1 124 55 := by simp only [c0v2_, c1v2_, c2v2_, c3v2_, c4v2_, c5v2_, c6v2_, c7v2_, c8v2_, c9v2_, c10v2_, c11v2_, c12v2_, c13v2_, c14v2_, c15v2_, c16v2_, c17v2_, c0v1_, c1v1_, c2v1_, c3v1_, c4v1_, c5v1_, c6v1_, c7v1_, c8v1_, c9v1_, c10v1_, c11v1_, c12v1_, c13v1_, c14v1_, c15v1_, c16v1_, c17v1_, hi.2.1, hi.2.2.1, hi.2.2.2.1, hi.2.2.2.2.1, hi.2.2.2.2.2.1, hi.2.2.2.2.2.2.1, hi.2.2.2.2.2.2.2.1, hi.2.2.2.2.2.2.2.2.1, hi.2.2.2.2.2.2.2.2.2.1]
    have q4_ : M2_.1 100 0 = M2_.1 124 37 := by simp only [c0v2_, c1v2_, c2v2_, c3v2_, c4v2_, c5v2_, c6v2_, c7v2_, c8v2_, c9v2_, c10v2_, c11v2_, c12v2_, c13v2_, c14v2_, c15v2_, c16v2_, c17v2_, c0v1_, c1v1_, c2v1_, c3v1_, c4v1_, c5v1_, c6v1_, c7v1_, c8v1_, c9v1_, c10v1_, c11v1_, c12v1_, c13v1_, c14v1_, c15v1_, c16v1_, c17v1_, hi.2.1, hi.2.2.1, hi.2.2.2.1, hi.2.2.2.2.1, hi.2.2.2.2.2.1, hi.2.2.2.2.2.2.1, hi.2.2.2.2.2.2.2.1, hi.2.2.2.2.2.2.2.2.1, hi.2.2.2.2.2.2.2.2.2.1]
    have q5_ : M2_.1 102 0 = M2_.1 124 40 := by simp only [c0v2_, c1v2_, c2v2_, c3v2_, c4v2_, c5v2_, c6v2_, c7v2_, c8v2_, c9v2_, c10v2_, c11v2_, c12v2_, c13v2_, c14v2_, c15v2_, c16v2_, c17v2_, c0v1_, c1v1_, c2v1_, c3v1_, c4v1_, c5v1_, c6v1_, c7v1_, c8v1_, c9v1_, c10v1_, c11v1_, c12v1_, c13v1_, c14v1_, c15v1_, c16v1_, c17v1_, hi.2.1, hi.2.2.1, hi.2.2.2.1, hi.2.2.2.2.1, hi.2.2.2.2.2.1, hi.2.2.2.2.2.2.1, hi.2.2.2.2.2.2.2.1, hi.2.2.2.2.2.2.2.2.1, hi.2.2.2.2.2.2.2.2.2.1]
    have q6_ : M2_.1 103 0 = M2_.1 124 56 := by simp only [c0v2_, c1v2_, c2v2_, c3v2_, c4v2_, c5v2_, c6v2_, c7v2_, c8v2_, c9v2_, c10v2_, c11v2_, c12v2_, c13v2_, c14v2_, c15v2_, c16v2_, c17v2_, c0v1_, c1v1_, c2v1_, c3v1_, c4v1_, c5v1_, c6v1_, c7v1_, c8v1_, c9v1_, c10v1_, c11v1_, c12v1_, c13v1_, c14v1_, c15v1_, c16v1_, c17v1_, hi.2.1, hi.2.2.1, hi.2.2.2.1, hi.2.2.2.2.1, hi.2.2.2.2.2.1, hi.2.2.2.2.2.2.1, hi.2.2.2.2.2.2.2.1, hi.2.2.2.2.2.2.2.2.1, hi.2.2.2.2.2.2.2.2.2.1]
    have q7_ : M2_.1 104 0 = M2_.1 124 43 := by simp only [c0v2_, c1v2_, c2v2_, c3v2_, c4v2_, c5v2_, c6v2_, c7v2_, c8v2_, c9v2_, c10v2_, c11v2_, c12v2_, c13v2_, c14v2_, c15v2_, c16v2_, c17v2_, c0v1_, c1v1_, c2v1_, c3v1_, c4v1_, c5v1_, c6v1_, c7v1_, c8v1_, c9v1_, c10v1_, c11v1_, c12v1_, c13v1_, c14v1_, c15v1_, c16v1_, c17v1_, hi.2.1, hi.2.2.1, hi.2.2.2.1, hi.2.2.2.2.1, hi.2.2.2.2.2.1, hi.2.2.2.2.2.2.1, hi.2.2.2.2.2.2.2.1, hi.2.2.2.2.2.2.2.2.1, hi.2.2.2.2.2.2.2.2.2.1]
    have q8_ : M2_.1 105 0 = M2_.1 124 57 := by simp only [c0v2_, c1v2_, c2v2_, c3v2_, c4v2_, c5v2_, c6v2_, c7v2_, c8v2_, c9v2_, c10v2_, c11v2_, c12v2_, c13v2_, c14v2_, c15v2_, c16v2_, c17v2_, c0v1_, c1v1_, c2v1_, c3v1_, c4v1_, c5v1_, c6v1_, c7v1_, c8v1_, c9v1_, c10v1_, c11v1_, c12v1_, c13v1_, c14v1_, c15v1_, c16v1_, c17v1_, hi.2.1, hi.2.2.1, hi.2.2.2.1, hi.2.2.2.2.1, hi.2.2.2.2.2.1, hi.2.2.2.2.2.2.1, hi.2.2.2.2.2.2.2.1, hi.2.2.2.2.2.2.2.2.1, hi.2.2.2.2.2.2.2.2.2.1]
    exact ⟨q0_, q1_, q2_, q3_, q4_, q5_, q6_, q7_, q8_, zP1_k hi.2.2.2.2.2.2.2.2.2.2.1 (c0v2_.trans c0v1_) (zKc_t K1v1_ K1v2_) (zKm_t K3v1_ K3v2_), zP2_k hi.2.2.2.2.2.2.2.2.2.2.2.1 (c2v2_.trans c2v1_) (zKc_t K2v1_ K2v2_) (zKm_t K4v1_ K4v2_), zPT_k hi.2.2.2.2.2.2.2.2.2.2.2.2.1 T9v1_ T10v1_ T9v2_ T10v2_, zRr_k hi.2.2.2.2.2.2.2.2.2.2.2.2.2.1 (c8v2_.trans c8v1_) G1v1_ G3v1_ G1v2_ G3v2_, zRr_k hi.2.2.2.2.2.2.2.2.2.2.2.2.2.2.1 (c6v2_.trans c6v1_) G2v1_ G4v1_ G2v2_ G4v2_, zPH_k hi.2.2.2.2.2.2.2.2.2.2.2.2.2.2.2.1 A9v1_ A0v1_ A9v2_ A0v2_, zVe_k hi.2.2.2.2.2.2.2.2.2.2.2.2.2.2.2.2.1 (c0v2_.trans c0v1_) VSv1_ WSv1_ VSv2_ WSv2_, zVe_k hi.2.2.2.2.2.2.2.2.2.2.2.2.2.2.2.2.2.1 (c2v2_.trans c2v1_) VKv1_ WKv1_ VKv2_ WKv2_, zHW_d hi.1.1 hi.2.2.2.2.2.2.2.2.2.2.2.2.2.2.2.2.2.2 HBv1_ HDv1_ HBv2_ HDv2_⟩
  refine zr_pop2 C dL_law_871 rfl ?_
  refine zr_goto (tgt := 1337) C dL_law_872 (by decide) ?_
  exact kk M2_ ⟨iv2_, rv2_⟩
set_option maxRecDepth 10000 in
theorem zl_case_25 (htab : pvTab) {p : Program} {l : Launch} {e : Env} {s : State} {m : MethodId} {below : List Frame} {meth : Method} {c : Code} {b L : Nat} {xs : Nat → Int32} {D : va_G} {y : Nat → ClassId} {ad : Nat → Nat} {ls : Array Slot} {i : Int32} {Q : State → Prop} {M : pvM} (C : zLc p s m c b L xs D y ad ls i) (hi : zIR M) (kk : ∀ M1, zIR M1 → zLW p l e s m below meth c b D y ad ls Q 1337 [] M1) : zLW p l e s m below meth c b D y ad ls Q 875 [] M := by
  refine zr_x C dL_law_875 ?_
  refine zr_arg 1 C dL_law_876 dL_law_877 dL_law_878 dL_law_879 dL_law_880 (by decide) (by decide) ?_
  refine zr_call htab (j := 186) (n := 1) (q := 0) (as := [pvI (xs (i + 1).toNatClampNeg)]) (rest := []) C rfl rfl rfl rfl (lw_X9_mean M hi.1 (xs (i + 1).toNatClampNeg)) (zgV zm_1053 zm_1054 zm_1055 zm_2 zm_1056) (by decide +kernel) rfl rfl rfl dL_law_881 rfl rfl (fun r M1_ h1_ => ?_)
  obtain ⟨⟨v1_, rfl⟩, iv1_, c0v1_, c1v1_, c2v1_, c3v1_, c4v1_, c5v1_, c6v1_, c7v1_, c8v1_, c9v1_, c10v1_, c11v1_, c12v1_, c13v1_, c14v1_, c15v1_, c16v1_, c17v1_, K1v1_, K2v1_, K3v1_, K4v1_, T9v1_, T10v1_, G1v1_, G2v1_, G3v1_, G4v1_, A9v1_, A0v1_, VSv1_, VKv1_, WSv1_, WKv1_, HBv1_, HDv1_⟩ := h1_
  refine zr_pop2 C dL_law_884 rfl ?_
  refine zr_m C dL_law_885 ?_
  refine zr_arg 1 C dL_law_886 dL_law_887 dL_law_888 dL_law_889 dL_law_890 (by decide) (by decide) ?_
  refine zr_call htab (j := 55) (n := 1) (q := 124) (as := [pvI (xs (i + 1).toNatClampNeg)]) (rest := []) C rfl rfl rfl rfl (lw_X10_mean M1_ iv1_ (xs (i + 1).toNatClampNeg)) (zgV zm_1057 zm_1058 zm_1059 zm_5 zm_1060) (by decide +kernel) rfl rfl rfl dL_law_891 rfl rfl (fun r M2_ h2_ => ?_)
  obtain ⟨⟨v2_, rfl⟩, iv2_, c0v2_, c1v2_, c2v2_, c3v2_, c4v2_, c5v2_, c6v2_, c7v2_, c8v2_, c9v2_, c10v2_, c11v2_, c12v2_, c13v2_, c14v2_, c15v2_, c16v2_, c17v2_, K1v2_, K2v2_, K3v2_, K4v2_, T9v2_, T10v2_, G1v2_, G2v2_, G3v2_, G4v2_, A9v2_, A0v2_, VSv2_, VKv2_, WSv2_, WKv2_, HBv2_, HDv2_⟩ := h2_
  have rv2_ : zRl M2_ := by
    have q0_ : M2_.1 8 1 = M2_.1 124 0 := by simp only [c0v2_, c1v2_, c2v2_, c3v2_, c4v2_, c5v2_, c6v2_, c7v2_, c8v2_, c9v2_, c10v2_, c11v2_, c12v2_, c13v2_, c14v2_, c15v2_, c16v2_, c17v2_, c0v1_, c1v1_, c2v1_, c3v1_, c4v1_, c5v1_, c6v1_, c7v1_, c8v1_, c9v1_, c10v1_, c11v1_, c12v1_, c13v1_, c14v1_, c15v1_, c16v1_, c17v1_, hi.2.1, hi.2.2.1, hi.2.2.2.1, hi.2.2.2.2.1, hi.2.2.2.2.2.1, hi.2.2.2.2.2.2.1, hi.2.2.2.2.2.2.2.1, hi.2.2.2.2.2.2.2.2.1, hi.2.2.2.2.2.2.2.2.2.1]
    have q1_ : M2_.1 9 1 = M2_.1 124 48 := by simp only [c0v2_, c1v2_, c2v2_, c3v2_, c4v2_, c5v2_, c6v2_, c7v2_, c8v2_, c9v2_, c10v2_, c11v2_, c12v2_, c13v2_, c14v2_, c15v2_, c16v2_, c17v2_, c0v1_, c1v1_, c2v1_, c3v1_, c4v1_, c5v1_, c6v1_, c7v1_, c8v1_, c9v1_, c10v1_, c11v1_, c12v1_, c13v1_, c14v1_, c15v1_, c16v1_, c17v1_, hi.2.1, hi.2.2.1, hi.2.2.2.1, hi.2.2.2.2.1, hi.2.2.2.2.2.1, hi.2.2.2.2.2.2.1, hi.2.2.2.2.2.2.2.1, hi.2.2.2.2.2.2.2.2.1, hi.2.2.2.2.2.2.2.2.2.1]
    have q2_ : M2_.1 0 5 = M2_.1 124 46 := by simp only [c0v2_, c1v2_, c2v2_, c3v2_, c4v2_, c5v2_, c6v2_, c7v2_, c8v2_, c9v2_, c10v2_, c11v2_, c12v2_, c13v2_, c14v2_, c15v2_, c16v2_, c17v2_, c0v1_, c1v1_, c2v1_, c3v1_, c4v1_, c5v1_, c6v1_, c7v1_, c8v1_, c9v1_, c10v1_, c11v1_, c12v1_, c13v1_, c14v1_, c15v1_, c16v1_, c17v1_, hi.2.1, hi.2.2.1, hi.2.2.2.1, hi.2.2.2.2.1, hi.2.2.2.2.2.1, hi.2.2.2.2.2.2.1, hi.2.2.2.2.2.2.2.1, hi.2.2.2.2.2.2.2.2.1, hi.2.2.2.2.2.2.2.2.2.1]
    have q3_ : M2_.1 101 0 = M2_.1 124 55 := by simp only [c0v2_, c1v2_, c2v2_, c3v2_, c4v2_, c5v2_, c6v2_, c7v2_, c8v2_, c9v2_, c10v2_, c11v2_, c12v2_, c13v2_, c14v2_, c15v2_, c16v2_, c17v2_, c0v1_, c1v1_, c2v1_, c3v1_, c4v1_, c5v1_, c6v1_, c7v1_, c8v1_, c9v1_, c10v1_, c11v1_, c12v1_, c13v1_, c14v1_, c15v1_, c16v1_, c17v1_, hi.2.1, hi.2.2.1, hi.2.2.2.1, hi.2.2.2.2.1, hi.2.2.2.2.2.1, hi.2.2.2.2.2.2.1, hi.2.2.2.2.2.2.2.1, hi.2.2.2.2.2.2.2.2.1, hi.2.2.2.2.2.2.2.2.2.1]
    have q4_ : M2_.1 100 0 = M2_.1 124 37 := by simp only [c0v2_, c1v2_, c2v2_, c3v2_, c4v2_, c5v2_, c6v2_, c7v2_, c8v2_, c9v2_, c10v2_, c11v2_, c12v2_, c13v2_, c14v2_, c15v2_, c16v2_, c17v2_, c0v1_, c1v1_, c2v1_, c3v1_, c4v1_, c5v1_, c6v1_, c7v1_, c8v1_, c9v1_, c10v1_, c11v1_, c12v1_, c13v1_, c14v1_, c15v1_, c16v1_, c17v1_, hi.2.1, hi.2.2.1, hi.2.2.2.1, hi.2.2.2.2.1, hi.2.2.2.2.2.1, hi.2.2.2.2.2.2.1, hi.2.2.2.2.2.2.2.1, hi.2.2.2.2.2.2.2.2.1, hi.2.2.2.2.2.2.2.2.2.1]
    have q5_ : M2_.1 102 0 = M2_.1 124 40 := by simp only [c0v2_, c1v2_, c2v2_, c3v2_, c4v2_, c5v2_, c6v2_, c7v2_, c8v2_, c9v2_, c10v2_, c11v2_, c12v2_, c13v2_, c14v2_, c15v2_, c16v2_, c17v2_, c0v1_, c1v1_, c2v1_, c3v1_, c4v1_, c5v1_, c6v1_, c7v1_, c8v1_, c9v1_, c10v1_, c11v1_, c12v1_, c13v1_, c14v1_, c15v1_, c16v1_, c17v1_, hi.2.1, hi.2.2.1, hi.2.2.2.1, hi.2.2.2.2.1, hi.2.2.2.2.2.1, hi.2.2.2.2.2.2.1, hi.2.2.2.2.2.2.2.1, hi.2.2.2.2.2.2.2.2.1, hi.2.2.2.2.2.2.2.2.2.1]
    have q6_ : M2_.1 103 0 = M2_.1 124 56 := by simp only [c0v2_, c1v2_, c2v2_, c3v2_, c4v2_, c5v2_, c6v2_, c7v2_, c8v2_, c9v2_, c10v2_, c11v2_, c12v2_, c13v2_, c14v2_, c15v2_, c16v2_, c17v2_, c0v1_, c1v1_, c2v1_, c3v1_, c4v1_, c5v1_, c6v1_, c7v1_, c8v1_, c9v1_, c10v1_, c11v1_, c12v1_, c13v1_, c14v1_, c15v1_, c16v1_, c17v1_, hi.2.1, hi.2.2.1, hi.2.2.2.1, hi.2.2.2.2.1, hi.2.2.2.2.2.1, hi.2.2.2.2.2.2.1, hi.2.2.2.2.2.2.2.1, hi.2.2.2.2.2.2.2.2.1, hi.2.2.2.2.2.2.2.2.2.1]
    have q7_ : M2_.1 104 0 = M2_.1 124 43 := by simp only [c0v2_, c1v2_, c2v2_, c3v2_, c4v2_, c5v2_, c6v2_, c7v2_, c8v2_, c9v2_, c10v2_, c11v2_, c12v2_, c13v2_, c14v2_, c15v2_, c16v2_, c17v2_, c0v1_, c1v1_, c2v1_, c3v1_, c4v1_, c5v1_, c6v1_, c7v1_, c8v1_, c9v1_, c10v1_, c11v1_, c12v1_, c13v1_, c14v1_, c15v1_, c16v1_, c17v1_, hi.2.1, hi.2.2.1, hi.2.2.2.1, hi.2.2.2.2.1, hi.2.2.2.2.2.1, hi.2.2.2.2.2.2.1, hi.2.2.2.2.2.2.2.1, hi.2.2.2.2.2.2.2.2.1, hi.2.2.2.2.2.2.2.2.2.1]
    have q8_ : M2_.1 105 0 = M2_.1 124 57 := by simp only [c0v2_, c1v2_, c2v2_, c3v2_, c4v2_, c5v2_, c6v2_, c7v2_, c8v2_, c9v2_, c10v2_, c11v2_, c12v2_, c13v2_, c14v2_, c15v2_, c16v2_, c17v2_, c0v1_, c1v1_, c2v1_, c3v1_, c4v1_, c5v1_, c6v1_, c7v1_, c8v1_, c9v1_, c10v1_, c11v1_, c12v1_, c13v1_, c14v1_, c15v1_, c16v1_, c17v1_, hi.2.1, hi.2.2.1, hi.2.2.2.1, hi.2.2.2.2.1, hi.2.2.2.2.2.1, hi.2.2.2.2.2.2.1, hi.2.2.2.2.2.2.2.1, hi.2.2.2.2.2.2.2.2.1, hi.2.2.2.2.2.2.2.2.2.1]
    exact ⟨q0_, q1_, q2_, q3_, q4_, q5_, q6_, q7_, q8_, zP1_k hi.2.2.2.2.2.2.2.2.2.2.1 (c0v2_.trans c0v1_) (zKc_t K1v1_ K1v2_) (zKm_t K3v1_ K3v2_), zP2_k hi.2.2.2.2.2.2.2.2.2.2.2.1 (c2v2_.trans c2v1_) (zKc_t K2v1_ K2v2_) (zKm_t K4v1_ K4v2_), zPT_k hi.2.2.2.2.2.2.2.2.2.2.2.2.1 T9v1_ T10v1_ T9v2_ T10v2_, zRr_k hi.2.2.2.2.2.2.2.2.2.2.2.2.2.1 (c8v2_.trans c8v1_) G1v1_ G3v1_ G1v2_ G3v2_, zRr_k hi.2.2.2.2.2.2.2.2.2.2.2.2.2.2.1 (c6v2_.trans c6v1_) G2v1_ G4v1_ G2v2_ G4v2_, zPH_k hi.2.2.2.2.2.2.2.2.2.2.2.2.2.2.2.1 A9v1_ A0v1_ A9v2_ A0v2_, zVe_k hi.2.2.2.2.2.2.2.2.2.2.2.2.2.2.2.2.1 (c0v2_.trans c0v1_) VSv1_ WSv1_ VSv2_ WSv2_, zVe_k hi.2.2.2.2.2.2.2.2.2.2.2.2.2.2.2.2.2.1 (c2v2_.trans c2v1_) VKv1_ WKv1_ VKv2_ WKv2_, zHW_d hi.1.1 hi.2.2.2.2.2.2.2.2.2.2.2.2.2.2.2.2.2.2 HBv1_ HDv1_ HBv2_ HDv2_⟩
  refine zr_pop2 C dL_law_894 rfl ?_
  refine zr_goto (tgt := 1337) C dL_law_895 (by decide) ?_
  exact kk M2_ ⟨iv2_, rv2_⟩
set_option maxRecDepth 10000 in
theorem zl_case_26 (htab : pvTab) {p : Program} {l : Launch} {e : Env} {s : State} {m : MethodId} {below : List Frame} {meth : Method} {c : Code} {b L : Nat} {xs : Nat → Int32} {D : va_G} {y : Nat → ClassId} {ad : Nat → Nat} {ls : Array Slot} {i : Int32} {Q : State → Prop} {M : pvM} (C : zLc p s m c b L xs D y ad ls i) (hi : zIR M) (kk : ∀ M1, zIR M1 → zLW p l e s m below meth c b D y ad ls Q 1337 [] M1) : zLW p l e s m below meth c b D y ad ls Q 898 [] M := by
  refine zr_x C dL_law_898 ?_
  refine zr_arg 1 C dL_law_899 dL_law_900 dL_law_901 dL_law_902 dL_law_903 (by decide) (by decide) ?_
  refine zr_arg 2 C dL_law_904 dL_law_905 dL_law_906 dL_law_907 dL_law_908 (by decide) (by decide) ?_
  refine zr_call htab (j := 171) (n := 2) (q := 0) (as := [pvI (xs (i + 1).toNatClampNeg), pvI (xs (i + 2).toNatClampNeg)]) (rest := []) C rfl rfl rfl rfl (lw_X9_book M hi.1 (xs (i + 1).toNatClampNeg) (xs (i + 2).toNatClampNeg)) (zgV zm_1061 zm_1062 zm_1063 zm_2 zm_1064) (by decide +kernel) rfl rfl rfl dL_law_909 rfl rfl (fun r M1_ h1_ => ?_)
  obtain ⟨⟨v1_, rfl, ev1_⟩, iv1_, c0v1_, c1v1_, c2v1_, c3v1_, c4v1_, c5v1_, c6v1_, c7v1_, c8v1_, c9v1_, c10v1_, c11v1_, c12v1_, c13v1_, c14v1_, c15v1_, c16v1_, c17v1_, K1v1_, K2v1_, K3v1_, K4v1_, T9v1_, T10v1_, G1v1_, G2v1_, G3v1_, G4v1_, A9v1_, A0v1_, VSv1_, VKv1_, WSv1_, WKv1_, HBv1_, HDv1_⟩ := h1_
  refine zr_pop C dL_law_912 rfl ?_
  refine zr_m C dL_law_913 ?_
  refine zr_arg 1 C dL_law_914 dL_law_915 dL_law_916 dL_law_917 dL_law_918 (by decide) (by decide) ?_
  refine zr_arg 2 C dL_law_919 dL_law_920 dL_law_921 dL_law_922 dL_law_923 (by decide) (by decide) ?_
  refine zr_call htab (j := 12) (n := 2) (q := 124) (as := [pvI (xs (i + 1).toNatClampNeg), pvI (xs (i + 2).toNatClampNeg)]) (rest := []) C rfl rfl rfl rfl (lw_X10_book M1_ iv1_ (xs (i + 1).toNatClampNeg) (xs (i + 2).toNatClampNeg)) (zgV zm_1066 zm_1067 zm_1068 zm_5 zm_1069) (by decide +kernel) rfl rfl rfl dL_law_924 rfl rfl (fun r M2_ h2_ => ?_)
  obtain ⟨⟨v2_, rfl, ev2_⟩, iv2_, c0v2_, c1v2_, c2v2_, c3v2_, c4v2_, c5v2_, c6v2_, c7v2_, c8v2_, c9v2_, c10v2_, c11v2_, c12v2_, c13v2_, c14v2_, c15v2_, c16v2_, c17v2_, K1v2_, K2v2_, K3v2_, K4v2_, T9v2_, T10v2_, G1v2_, G2v2_, G3v2_, G4v2_, A9v2_, A0v2_, VSv2_, VKv2_, WSv2_, WKv2_, HBv2_, HDv2_⟩ := h2_
  have rv2_ : zRl M2_ := by
    have q0_ : M2_.1 8 1 = M2_.1 124 0 := by simp only [c0v2_, c1v2_, c2v2_, c3v2_, c4v2_, c5v2_, c6v2_, c7v2_, c8v2_, c9v2_, c10v2_, c11v2_, c12v2_, c13v2_, c14v2_, c15v2_, c16v2_, c17v2_, c0v1_, c1v1_, c2v1_, c3v1_, c4v1_, c5v1_, c6v1_, c7v1_, c8v1_, c9v1_, c10v1_, c11v1_, c12v1_, c13v1_, c14v1_, c15v1_, c16v1_, c17v1_, hi.2.1, hi.2.2.1, hi.2.2.2.1, hi.2.2.2.2.1, hi.2.2.2.2.2.1, hi.2.2.2.2.2.2.1, hi.2.2.2.2.2.2.2.1, hi.2.2.2.2.2.2.2.2.1, hi.2.2.2.2.2.2.2.2.2.1]
    have q1_ : M2_.1 9 1 = M2_.1 124 48 := by simp only [c0v2_, c1v2_, c2v2_, c3v2_, c4v2_, c5v2_, c6v2_, c7v2_, c8v2_, c9v2_, c10v2_, c11v2_, c12v2_, c13v2_, c14v2_, c15v2_, c16v2_, c17v2_, c0v1_, c1v1_, c2v1_, c3v1_, c4v1_, c5v1_, c6v1_, c7v1_, c8v1_, c9v1_, c10v1_, c11v1_, c12v1_, c13v1_, c14v1_, c15v1_, c16v1_, c17v1_, hi.2.1, hi.2.2.1, hi.2.2.2.1, hi.2.2.2.2.1, hi.2.2.2.2.2.1, hi.2.2.2.2.2.2.1, hi.2.2.2.2.2.2.2.1, hi.2.2.2.2.2.2.2.2.1, hi.2.2.2.2.2.2.2.2.2.1]
    have q2_ : M2_.1 0 5 = M2_.1 124 46 := by simp only [c0v2_, c1v2_, c2v2_, c3v2_, c4v2_, c5v2_, c6v2_, c7v2_, c8v2_, c9v2_, c10v2_, c11v2_, c12v2_, c13v2_, c14v2_, c15v2_, c16v2_, c17v2_, c0v1_, c1v1_, c2v1_, c3v1_, c4v1_, c5v1_, c6v1_, c7v1_, c8v1_, c9v1_, c10v1_, c11v1_, c12v1_, c13v1_, c14v1_, c15v1_, c16v1_, c17v1_, hi.2.1, hi.2.2.1, hi.2.2.2.1, hi.2.2.2.2.1, hi.2.2.2.2.2.1, hi.2.2.2.2.2.2.1, hi.2.2.2.2.2.2.2.1, hi.2.2.2.2.2.2.2.2.1, hi.2.2.2.2.2.2.2.2.2.1]
    have q3_ : M2_.1 101 0 = M2_.1 124 55 := by simp only [c0v2_, c1v2_, c2v2_, c3v2_, c4v2_, c5v2_, c6v2_, c7v2_, c8v2_, c9v2_, c10v2_, c11v2_, c12v2_, c13v2_, c14v2_, c15v2_, c16v2_, c17v2_, c0v1_, c1v1_, c2v1_, c3v1_, c4v1_, c5v1_, c6v1_, c7v1_, c8v1_, c9v1_, c10v1_, c11v1_, c12v1_, c13v1_, c14v1_, c15v1_, c16v1_, c17v1_, hi.2.1, hi.2.2.1, hi.2.2.2.1, hi.2.2.2.2.1, hi.2.2.2.2.2.1, hi.2.2.2.2.2.2.1, hi.2.2.2.2.2.2.2.1, hi.2.2.2.2.2.2.2.2.1, hi.2.2.2.2.2.2.2.2.2.1]
    have q4_ : M2_.1 100 0 = M2_.1 124 37 := by simp only [c0v2_, c1v2_, c2v2_, c3v2_, c4v2_, c5v2_, c6v2_, c7v2_, c8v2_, c9v2_, c10v2_, c11v2_, c12v2_, c13v2_, c14v2_, c15v2_, c16v2_, c17v2_, c0v1_, c1v1_, c2v1_, c3v1_, c4v1_, c5v1_, c6v1_, c7v1_, c8v1_, c9v1_, c10v1_, c11v1_, c12v1_, c13v1_, c14v1_, c15v1_, c16v1_, c17v1_, hi.2.1, hi.2.2.1, hi.2.2.2.1, hi.2.2.2.2.1, hi.2.2.2.2.2.1, hi.2.2.2.2.2.2.1, hi.2.2.2.2.2.2.2.1, hi.2.2.2.2.2.2.2.2.1, hi.2.2.2.2.2.2.2.2.2.1]
    have q5_ : M2_.1 102 0 = M2_.1 124 40 := by simp only [c0v2_, c1v2_, c2v2_, c3v2_, c4v2_, c5v2_, c6v2_, c7v2_, c8v2_, c9v2_, c10v2_, c11v2_, c12v2_, c13v2_, c14v2_, c15v2_, c16v2_, c17v2_, c0v1_, c1v1_, c2v1_, c3v1_, c4v1_, c5v1_, c6v1_, c7v1_, c8v1_, c9v1_, c10v1_, c11v1_, c12v1_, c13v1_, c14v1_, c15v1_, c16v1_, c17v1_, hi.2.1, hi.2.2.1, hi.2.2.2.1, hi.2.2.2.2.1, hi.2.2.2.2.2.1, hi.2.2.2.2.2.2.1, hi.2.2.2.2.2.2.2.1, hi.2.2.2.2.2.2.2.2.1, hi.2.2.2.2.2.2.2.2.2.1]
    have q6_ : M2_.1 103 0 = M2_.1 124 56 := by simp only [c0v2_, c1v2_, c2v2_, c3v2_, c4v2_, c5v2_, c6v2_, c7v2_, c8v2_, c9v2_, c10v2_, c11v2_, c12v2_, c13v2_, c14v2_, c15v2_, c16v2_, c17v2_, c0v1_, c1v1_, c2v1_, c3v1_, c4v1_, c5v1_, c6v1_, c7v1_, c8v1_, c9v1_, c10v1_, c11v1_, c12v1_, c13v1_, c14v1_, c15v1_, c16v1_, c17v1_, hi.2.1, hi.2.2.1, hi.2.2.2.1, hi.2.2.2.2.1, hi.2.2.2.2.2.1, hi.2.2.2.2.2.2.1, hi.2.2.2.2.2.2.2.1, hi.2.2.2.2.2.2.2.2.1, hi.2.2.2.2.2.2.2.2.2.1]
    have q7_ : M2_.1 104 0 = M2_.1 124 43 := by simp only [c0v2_, c1v2_, c2v2_, c3v2_, c4v2_, c5v2_, c6v2_, c7v2_, c8v2_, c9v2_, c10v2_, c11v2_, c12v2_, c13v2_, c14v2_, c15v2_, c16v2_, c17v2_, c0v1_, c1v1_, c2v1_, c3v1_, c4v1_, c5v1_, c6v1_, c7v1_, c8v1_, c9v1_, c10v1_, c11v1_, c12v1_, c13v1_, c14v1_, c15v1_, c16v1_, c17v1_, hi.2.1, hi.2.2.1, hi.2.2.2.1, hi.2.2.2.2.1, hi.2.2.2.2.2.1, hi.2.2.2.2.2.2.1, hi.2.2.2.2.2.2.2.1, hi.2.2.2.2.2.2.2.2.1, hi.2.2.2.2.2.2.2.2.2.1]; exact zc_book_0 _ _ _ _ (pvok_r hi.1.1 124 0 rfl) (pvok_r hi.1.1 124 43 rfl)
    have q8_ : M2_.1 105 0 = M2_.1 124 57 := by simp only [c0v2_, c1v2_, c2v2_, c3v2_, c4v2_, c5v2_, c6v2_, c7v2_, c8v2_, c9v2_, c10v2_, c11v2_, c12v2_, c13v2_, c14v2_, c15v2_, c16v2_, c17v2_, c0v1_, c1v1_, c2v1_, c3v1_, c4v1_, c5v1_, c6v1_, c7v1_, c8v1_, c9v1_, c10v1_, c11v1_, c12v1_, c13v1_, c14v1_, c15v1_, c16v1_, c17v1_, hi.2.1, hi.2.2.1, hi.2.2.2.1, hi.2.2.2.2.1, hi.2.2.2.2.2.1, hi.2.2.2.2.2.2.1, hi.2.2.2.2.2.2.2.1, hi.2.2.2.2.2.2.2.2.1, hi.2.2.2.2.2.2.2.2.2.1]
    exact ⟨q0_, q1_, q2_, q3_, q4_, q5_, q6_, q7_, q8_, zP1_k hi.2.2.2.2.2.2.2.2.2.2.1 (c0v2_.trans c0v1_) (zKc_t K1v1_ K1v2_) (zKm_t K3v1_ K3v2_), zP2_k hi.2.2.2.2.2.2.2.2.2.2.2.1 (c2v2_.trans c2v1_) (zKc_t K2v1_ K2v2_) (zKm_t K4v1_ K4v2_), zPT_k hi.2.2.2.2.2.2.2.2.2.2.2.2.1 T9v1_ T10v1_ T9v2_ T10v2_, zRr_k hi.2.2.2.2.2.2.2.2.2.2.2.2.2.1 (c8v2_.trans c8v1_) G1v1_ G3v1_ G1v2_ G3v2_, zRr_k hi.2.2.2.2.2.2.2.2.2.2.2.2.2.2.1 (c6v2_.trans c6v1_) G2v1_ G4v1_ G2v2_ G4v2_, zPH_k hi.2.2.2.2.2.2.2.2.2.2.2.2.2.2.2.1 A9v1_ A0v1_ A9v2_ A0v2_, zVe_k hi.2.2.2.2.2.2.2.2.2.2.2.2.2.2.2.2.1 (c0v2_.trans c0v1_) VSv1_ WSv1_ VSv2_ WSv2_, zVe_k hi.2.2.2.2.2.2.2.2.2.2.2.2.2.2.2.2.2.1 (c2v2_.trans c2v1_) VKv1_ WKv1_ VKv2_ WKv2_, zHW_d hi.1.1 hi.2.2.2.2.2.2.2.2.2.2.2.2.2.2.2.2.2.2 HBv1_ HDv1_ HBv2_ HDv2_⟩
  refine zr_pop C dL_law_927 rfl ?_
  refine zr_goto (tgt := 1337) C dL_law_928 (by decide) ?_
  exact kk M2_ ⟨iv2_, rv2_⟩
set_option maxRecDepth 10000 in
theorem zl_case_27 (htab : pvTab) {p : Program} {l : Launch} {e : Env} {s : State} {m : MethodId} {below : List Frame} {meth : Method} {c : Code} {b L : Nat} {xs : Nat → Int32} {D : va_G} {y : Nat → ClassId} {ad : Nat → Nat} {ls : Array Slot} {i : Int32} {Q : State → Prop} {M : pvM} (C : zLc p s m c b L xs D y ad ls i) (hi : zIR M) (kk : ∀ M1, zIR M1 → zLW p l e s m below meth c b D y ad ls Q 1337 [] M1) : zLW p l e s m below meth c b D y ad ls Q 931 [] M := by
  refine zr_x C dL_law_931 ?_
  refine zr_call htab (j := 185) (n := 0) (q := 0) (as := []) (rest := []) C rfl rfl rfl rfl (lw_X9_looked M hi.1) (zgV zm_1070 zm_1071 zm_1072 zm_2 zm_1073) (by decide +kernel) rfl rfl rfl dL_law_932 rfl rfl (fun r M1_ h1_ => ?_)
  obtain ⟨⟨v1_, rfl⟩, iv1_, c0v1_, c1v1_, c2v1_, c3v1_, c4v1_, c5v1_, c6v1_, c7v1_, c8v1_, c9v1_, c10v1_, c11v1_, c12v1_, c13v1_, c14v1_, c15v1_, c16v1_, c17v1_, K1v1_, K2v1_, K3v1_, K4v1_, T9v1_, T10v1_, G1v1_, G2v1_, G3v1_, G4v1_, A9v1_, A0v1_, VSv1_, VKv1_, WSv1_, WKv1_, HBv1_, HDv1_⟩ := h1_
  refine zr_pop C dL_law_935 rfl ?_
  refine zr_m C dL_law_936 ?_
  refine zr_call htab (j := 53) (n := 0) (q := 124) (as := []) (rest := []) C rfl rfl rfl rfl (lw_X10_looked M1_ iv1_) (zgV zm_1075 zm_1076 zm_1077 zm_5 zm_1078) (by decide +kernel) rfl rfl rfl dL_law_937 rfl rfl (fun r M2_ h2_ => ?_)
  obtain ⟨⟨v2_, rfl⟩, iv2_, c0v2_, c1v2_, c2v2_, c3v2_, c4v2_, c5v2_, c6v2_, c7v2_, c8v2_, c9v2_, c10v2_, c11v2_, c12v2_, c13v2_, c14v2_, c15v2_, c16v2_, c17v2_, K1v2_, K2v2_, K3v2_, K4v2_, T9v2_, T10v2_, G1v2_, G2v2_, G3v2_, G4v2_, A9v2_, A0v2_, VSv2_, VKv2_, WSv2_, WKv2_, HBv2_, HDv2_⟩ := h2_
  have rv2_ : zRl M2_ := by
    have q0_ : M2_.1 8 1 = M2_.1 124 0 := by simp only [c0v2_, c1v2_, c2v2_, c3v2_, c4v2_, c5v2_, c6v2_, c7v2_, c8v2_, c9v2_, c10v2_, c11v2_, c12v2_, c13v2_, c14v2_, c15v2_, c16v2_, c17v2_, c0v1_, c1v1_, c2v1_, c3v1_, c4v1_, c5v1_, c6v1_, c7v1_, c8v1_, c9v1_, c10v1_, c11v1_, c12v1_, c13v1_, c14v1_, c15v1_, c16v1_, c17v1_, hi.2.1, hi.2.2.1, hi.2.2.2.1, hi.2.2.2.2.1, hi.2.2.2.2.2.1, hi.2.2.2.2.2.2.1, hi.2.2.2.2.2.2.2.1, hi.2.2.2.2.2.2.2.2.1, hi.2.2.2.2.2.2.2.2.2.1]
    have q1_ : M2_.1 9 1 = M2_.1 124 48 := by simp only [c0v2_, c1v2_, c2v2_, c3v2_, c4v2_, c5v2_, c6v2_, c7v2_, c8v2_, c9v2_, c10v2_, c11v2_, c12v2_, c13v2_, c14v2_, c15v2_, c16v2_, c17v2_, c0v1_, c1v1_, c2v1_, c3v1_, c4v1_, c5v1_, c6v1_, c7v1_, c8v1_, c9v1_, c10v1_, c11v1_, c12v1_, c13v1_, c14v1_, c15v1_, c16v1_, c17v1_, hi.2.1, hi.2.2.1, hi.2.2.2.1, hi.2.2.2.2.1, hi.2.2.2.2.2.1, hi.2.2.2.2.2.2.1, hi.2.2.2.2.2.2.2.1, hi.2.2.2.2.2.2.2.2.1, hi.2.2.2.2.2.2.2.2.2.1]
    have q2_ : M2_.1 0 5 = M2_.1 124 46 := by simp only [c0v2_, c1v2_, c2v2_, c3v2_, c4v2_, c5v2_, c6v2_, c7v2_, c8v2_, c9v2_, c10v2_, c11v2_, c12v2_, c13v2_, c14v2_, c15v2_, c16v2_, c17v2_, c0v1_, c1v1_, c2v1_, c3v1_, c4v1_, c5v1_, c6v1_, c7v1_, c8v1_, c9v1_, c10v1_, c11v1_, c12v1_, c13v1_, c14v1_, c15v1_, c16v1_, c17v1_, hi.2.1, hi.2.2.1, hi.2.2.2.1, hi.2.2.2.2.1, hi.2.2.2.2.2.1, hi.2.2.2.2.2.2.1, hi.2.2.2.2.2.2.2.1, hi.2.2.2.2.2.2.2.2.1, hi.2.2.2.2.2.2.2.2.2.1]
    have q3_ : M2_.1 101 0 = M2_.1 124 55 := by simp only [c0v2_, c1v2_, c2v2_, c3v2_, c4v2_, c5v2_, c6v2_, c7v2_, c8v2_, c9v2_, c10v2_, c11v2_, c12v2_, c13v2_, c14v2_, c15v2_, c16v2_, c17v2_, c0v1_, c1v1_, c2v1_, c3v1_, c4v1_, c5v1_, c6v1_, c7v1_, c8v1_, c9v1_, c10v1_, c11v1_, c12v1_, c13v1_, c14v1_, c15v1_, c16v1_, c17v1_, hi.2.1, hi.2.2.1, hi.2.2.2.1, hi.2.2.2.2.1, hi.2.2.2.2.2.1, hi.2.2.2.2.2.2.1, hi.2.2.2.2.2.2.2.1, hi.2.2.2.2.2.2.2.2.1, hi.2.2.2.2.2.2.2.2.2.1]
    have q4_ : M2_.1 100 0 = M2_.1 124 37 := by simp only [c0v2_, c1v2_, c2v2_, c3v2_, c4v2_, c5v2_, c6v2_, c7v2_, c8v2_, c9v2_, c10v2_, c11v2_, c12v2_, c13v2_, c14v2_, c15v2_, c16v2_, c17v2_, c0v1_, c1v1_, c2v1_, c3v1_, c4v1_, c5v1_, c6v1_, c7v1_, c8v1_, c9v1_, c10v1_, c11v1_, c12v1_, c13v1_, c14v1_, c15v1_, c16v1_, c17v1_, hi.2.1, hi.2.2.1, hi.2.2.2.1, hi.2.2.2.2.1, hi.2.2.2.2.2.1, hi.2.2.2.2.2.2.1, hi.2.2.2.2.2.2.2.1, hi.2.2.2.2.2.2.2.2.1, hi.2.2.2.2.2.2.2.2.2.1]
    have q5_ : M2_.1 102 0 = M2_.1 124 40 := by simp only [c0v2_, c1v2_, c2v2_, c3v2_, c4v2_, c5v2_, c6v2_, c7v2_, c8v2_, c9v2_, c10v2_, c11v2_, c12v2_, c13v2_, c14v2_, c15v2_, c16v2_, c17v2_, c0v1_, c1v1_, c2v1_, c3v1_, c4v1_, c5v1_, c6v1_, c7v1_, c8v1_, c9v1_, c10v1_, c11v1_, c12v1_, c13v1_, c14v1_, c15v1_, c16v1_, c17v1_, hi.2.1, hi.2.2.1, hi.2.2.2.1, hi.2.2.2.2.1, hi.2.2.2.2.2.1, hi.2.2.2.2.2.2.1, hi.2.2.2.2.2.2.2.1, hi.2.2.2.2.2.2.2.2.1, hi.2.2.2.2.2.2.2.2.2.1]
    have q6_ : M2_.1 103 0 = M2_.1 124 56 := by simp only [c0v2_, c1v2_, c2v2_, c3v2_, c4v2_, c5v2_, c6v2_, c7v2_, c8v2_, c9v2_, c10v2_, c11v2_, c12v2_, c13v2_, c14v2_, c15v2_, c16v2_, c17v2_, c0v1_, c1v1_, c2v1_, c3v1_, c4v1_, c5v1_, c6v1_, c7v1_, c8v1_, c9v1_, c10v1_, c11v1_, c12v1_, c13v1_, c14v1_, c15v1_, c16v1_, c17v1_, hi.2.1, hi.2.2.1, hi.2.2.2.1, hi.2.2.2.2.1, hi.2.2.2.2.2.1, hi.2.2.2.2.2.2.1, hi.2.2.2.2.2.2.2.1, hi.2.2.2.2.2.2.2.2.1, hi.2.2.2.2.2.2.2.2.2.1]
    have q7_ : M2_.1 104 0 = M2_.1 124 43 := by simp only [c0v2_, c1v2_, c2v2_, c3v2_, c4v2_, c5v2_, c6v2_, c7v2_, c8v2_, c9v2_, c10v2_, c11v2_, c12v2_, c13v2_, c14v2_, c15v2_, c16v2_, c17v2_, c0v1_, c1v1_, c2v1_, c3v1_, c4v1_, c5v1_, c6v1_, c7v1_, c8v1_, c9v1_, c10v1_, c11v1_, c12v1_, c13v1_, c14v1_, c15v1_, c16v1_, c17v1_, hi.2.1, hi.2.2.1, hi.2.2.2.1, hi.2.2.2.2.1, hi.2.2.2.2.2.1, hi.2.2.2.2.2.2.1, hi.2.2.2.2.2.2.2.1, hi.2.2.2.2.2.2.2.2.1, hi.2.2.2.2.2.2.2.2.2.1]
    have q8_ : M2_.1 105 0 = M2_.1 124 57 := by simp only [c0v2_, c1v2_, c2v2_, c3v2_, c4v2_, c5v2_, c6v2_, c7v2_, c8v2_, c9v2_, c10v2_, c11v2_, c12v2_, c13v2_, c14v2_, c15v2_, c16v2_, c17v2_, c0v1_, c1v1_, c2v1_, c3v1_, c4v1_, c5v1_, c6v1_, c7v1_, c8v1_, c9v1_, c10v1_, c11v1_, c12v1_, c13v1_, c14v1_, c15v1_, c16v1_, c17v1_, hi.2.1, hi.2.2.1, hi.2.2.2.1, hi.2.2.2.2.1, hi.2.2.2.2.2.1, hi.2.2.2.2.2.2.1, hi.2.2.2.2.2.2.2.1, hi.2.2.2.2.2.2.2.2.1, hi.2.2.2.2.2.2.2.2.2.1]
    exact ⟨q0_, q1_, q2_, q3_, q4_, q5_, q6_, q7_, q8_, zP1_k hi.2.2.2.2.2.2.2.2.2.2.1 (c0v2_.trans c0v1_) (zKc_t K1v1_ K1v2_) (zKm_t K3v1_ K3v2_), zP2_k hi.2.2.2.2.2.2.2.2.2.2.2.1 (c2v2_.trans c2v1_) (zKc_t K2v1_ K2v2_) (zKm_t K4v1_ K4v2_), zPT_k hi.2.2.2.2.2.2.2.2.2.2.2.2.1 T9v1_ T10v1_ T9v2_ T10v2_, zRr_k hi.2.2.2.2.2.2.2.2.2.2.2.2.2.1 (c8v2_.trans c8v1_) G1v1_ G3v1_ G1v2_ G3v2_, zRr_k hi.2.2.2.2.2.2.2.2.2.2.2.2.2.2.1 (c6v2_.trans c6v1_) G2v1_ G4v1_ G2v2_ G4v2_, zPH_k hi.2.2.2.2.2.2.2.2.2.2.2.2.2.2.2.1 A9v1_ A0v1_ A9v2_ A0v2_, zVe_k hi.2.2.2.2.2.2.2.2.2.2.2.2.2.2.2.2.1 (c0v2_.trans c0v1_) VSv1_ WSv1_ VSv2_ WSv2_, zVe_k hi.2.2.2.2.2.2.2.2.2.2.2.2.2.2.2.2.2.1 (c2v2_.trans c2v1_) VKv1_ WKv1_ VKv2_ WKv2_, zHW_d hi.1.1 hi.2.2.2.2.2.2.2.2.2.2.2.2.2.2.2.2.2.2 HBv1_ HDv1_ HBv2_ HDv2_⟩
  refine zr_pop C dL_law_940 rfl ?_
  refine zr_goto (tgt := 1337) C dL_law_941 (by decide) ?_
  exact kk M2_ ⟨iv2_, rv2_⟩
set_option maxRecDepth 10000 in
theorem zl_case_28 (htab : pvTab) {p : Program} {l : Launch} {e : Env} {s : State} {m : MethodId} {below : List Frame} {meth : Method} {c : Code} {b L : Nat} {xs : Nat → Int32} {D : va_G} {y : Nat → ClassId} {ad : Nat → Nat} {ls : Array Slot} {i : Int32} {Q : State → Prop} {M : pvM} (C : zLc p s m c b L xs D y ad ls i) (hi : zIR M) (kk : ∀ M1, zIR M1 → zLW p l e s m below meth c b D y ad ls Q 1337 [] M1) : zLW p l e s m below meth c b D y ad ls Q 944 [] M := by
  refine zr_x C dL_law_944 ?_
  refine zr_arg 1 C dL_law_945 dL_law_946 dL_law_947 dL_law_948 dL_law_949 (by decide) (by decide) ?_
  refine zr_arg 2 C dL_law_950 dL_law_951 dL_law_952 dL_law_953 dL_law_954 (by decide) (by decide) ?_
  refine zr_call htab (j := 182) (n := 2) (q := 0) (as := [pvI (xs (i + 1).toNatClampNeg), pvI (xs (i + 2).toNatClampNeg)]) (rest := []) C rfl rfl rfl rfl (lw_X9_judge M hi.1 (xs (i + 1).toNatClampNeg) (xs (i + 2).toNatClampNeg)) (zgV zm_1079 zm_1080 zm_1081 zm_2 zm_1082) (by decide +kernel) rfl rfl rfl dL_law_955 rfl rfl (fun r M1_ h1_ => ?_)
  obtain ⟨⟨v1_, rfl⟩, iv1_, c0v1_, c1v1_, c2v1_, c3v1_, c4v1_, c5v1_, c6v1_, c7v1_, c8v1_, c9v1_, c10v1_, c11v1_, c12v1_, c13v1_, c14v1_, c15v1_, c16v1_, c17v1_, K1v1_, K2v1_, K3v1_, K4v1_, T9v1_, T10v1_, G1v1_, G2v1_, G3v1_, G4v1_, A9v1_, A0v1_, VSv1_, VKv1_, WSv1_, WKv1_, HBv1_, HDv1_⟩ := h1_
  refine zr_pop C dL_law_958 rfl ?_
  refine zr_m C dL_law_959 ?_
  refine zr_arg 1 C dL_law_960 dL_law_961 dL_law_962 dL_law_963 dL_law_964 (by decide) (by decide) ?_
  refine zr_arg 2 C dL_law_965 dL_law_966 dL_law_967 dL_law_968 dL_law_969 (by decide) (by decide) ?_
  refine zr_call htab (j := 44) (n := 2) (q := 124) (as := [pvI (xs (i + 1).toNatClampNeg), pvI (xs (i + 2).toNatClampNeg)]) (rest := []) C rfl rfl rfl rfl (lw_X10_judge M1_ iv1_ (xs (i + 1).toNatClampNeg) (xs (i + 2).toNatClampNeg)) (zgV zm_1093 zm_1094 zm_1095 zm_5 zm_1096) (by decide +kernel) rfl rfl rfl dL_law_970 rfl rfl (fun r M2_ h2_ => ?_)
  obtain ⟨⟨v2_, rfl⟩, iv2_, c0v2_, c1v2_, c2v2_, c3v2_, c4v2_, c5v2_, c6v2_, c7v2_, c8v2_, c9v2_, c10v2_, c11v2_, c12v2_, c13v2_, c14v2_, c15v2_, c16v2_, c17v2_, K1v2_, K2v2_, K3v2_, K4v2_, T9v2_, T10v2_, G1v2_, G2v2_, G3v2_, G4v2_, A9v2_, A0v2_, VSv2_, VKv2_, WSv2_, WKv2_, HBv2_, HDv2_⟩ := h2_
  have rv2_ : zRl M2_ := by
    have q0_ : M2_.1 8 1 = M2_.1 124 0 := by simp only [c0v2_, c1v2_, c2v2_, c3v2_, c4v2_, c5v2_, c6v2_, c7v2_, c8v2_, c9v2_, c10v2_, c11v2_, c12v2_, c13v2_, c14v2_, c15v2_, c16v2_, c17v2_, c0v1_, c1v1_, c2v1_, c3v1_, c4v1_, c5v1_, c6v1_, c7v1_, c8v1_, c9v1_, c10v1_, c11v1_, c12v1_, c13v1_, c14v1_, c15v1_, c16v1_, c17v1_, hi.2.1, hi.2.2.1, hi.2.2.2.1, hi.2.2.2.2.1, hi.2.2.2.2.2.1, hi.2.2.2.2.2.2.1, hi.2.2.2.2.2.2.2.1, hi.2.2.2.2.2.2.2.2.1, hi.2.2.2.2.2.2.2.2.2.1]
    have q1_ : M2_.1 9 1 = M2_.1 124 48 := by simp only [c0v2_, c1v2_, c2v2_, c3v2_, c4v2_, c5v2_, c6v2_, c7v2_, c8v2_, c9v2_, c10v2_, c11v2_, c12v2_, c13v2_, c14v2_, c15v2_, c16v2_, c17v2_, c0v1_, c1v1_, c2v1_, c3v1_, c4v1_, c5v1_, c6v1_, c7v1_, c8v1_, c9v1_, c10v1_, c11v1_, c12v1_, c13v1_, c14v1_, c15v1_, c16v1_, c17v1_, hi.2.1, hi.2.2.1, hi.2.2.2.1, hi.2.2.2.2.1, hi.2.2.2.2.2.1, hi.2.2.2.2.2.2.1, hi.2.2.2.2.2.2.2.1, hi.2.2.2.2.2.2.2.2.1, hi.2.2.2.2.2.2.2.2.2.1]
    have q2_ : M2_.1 0 5 = M2_.1 124 46 := by simp only [c0v2_, c1v2_, c2v2_, c3v2_, c4v2_, c5v2_, c6v2_, c7v2_, c8v2_, c9v2_, c10v2_, c11v2_, c12v2_, c13v2_, c14v2_, c15v2_, c16v2_, c17v2_, c0v1_, c1v1_, c2v1_, c3v1_, c4v1_, c5v1_, c6v1_, c7v1_, c8v1_, c9v1_, c10v1_, c11v1_, c12v1_, c13v1_, c14v1_, c15v1_, c16v1_, c17v1_, hi.2.1, hi.2.2.1, hi.2.2.2.1, hi.2.2.2.2.1, hi.2.2.2.2.2.1, hi.2.2.2.2.2.2.1, hi.2.2.2.2.2.2.2.1, hi.2.2.2.2.2.2.2.2.1, hi.2.2.2.2.2.2.2.2.2.1]
    have q3_ : M2_.1 101 0 = M2_.1 124 55 := by simp only [c0v2_, c1v2_, c2v2_, c3v2_, c4v2_, c5v2_, c6v2_, c7v2_, c8v2_, c9v2_, c10v2_, c11v2_, c12v2_, c13v2_, c14v2_, c15v2_, c16v2_, c17v2_, c0v1_, c1v1_, c2v1_, c3v1_, c4v1_, c5v1_, c6v1_, c7v1_, c8v1_, c9v1_, c10v1_, c11v1_, c12v1_, c13v1_, c14v1_, c15v1_, c16v1_, c17v1_, hi.2.1, hi.2.2.1, hi.2.2.2.1, hi.2.2.2.2.1, hi.2.2.2.2.2.1, hi.2.2.2.2.2.2.1, hi.2.2.2.2.2.2.2.1, hi.2.2.2.2.2.2.2.2.1, hi.2.2.2.2.2.2.2.2.2.1]
    have q4_ : M2_.1 100 0 = M2_.1 124 37 := by simp only [c0v2_, c1v2_, c2v2_, c3v2_, c4v2_, c5v2_, c6v2_, c7v2_, c8v2_, c9v2_, c10v2_, c11v2_, c12v2_, c13v2_, c14v2_, c15v2_, c16v2_, c17v2_, c0v1_, c1v1_, c2v1_, c3v1_, c4v1_, c5v1_, c6v1_, c7v1_, c8v1_, c9v1_, c10v1_, c11v1_, c12v1_, c13v1_, c14v1_, c15v1_, c16v1_, c17v1_, hi.2.1, hi.2.2.1, hi.2.2.2.1, hi.2.2.2.2.1, hi.2.2.2.2.2.1, hi.2.2.2.2.2.2.1, hi.2.2.2.2.2.2.2.1, hi.2.2.2.2.2.2.2.2.1, hi.2.2.2.2.2.2.2.2.2.1]
    have q5_ : M2_.1 102 0 = M2_.1 124 40 := by simp only [c0v2_, c1v2_, c2v2_, c3v2_, c4v2_, c5v2_, c6v2_, c7v2_, c8v2_, c9v2_, c10v2_, c11v2_, c12v2_, c13v2_, c14v2_, c15v2_, c16v2_, c17v2_, c0v1_, c1v1_, c2v1_, c3v1_, c4v1_, c5v1_, c6v1_, c7v1_, c8v1_, c9v1_, c10v1_, c11v1_, c12v1_, c13v1_, c14v1_, c15v1_, c16v1_, c17v1_, hi.2.1, hi.2.2.1, hi.2.2.2.1, hi.2.2.2.2.1, hi.2.2.2.2.2.1, hi.2.2.2.2.2.2.1, hi.2.2.2.2.2.2.2.1, hi.2.2.2.2.2.2.2.2.1, hi.2.2.2.2.2.2.2.2.2.1]
    have q6_ : M2_.1 103 0 = M2_.1 124 56 := by simp only [c0v2_, c1v2_, c2v2_, c3v2_, c4v2_, c5v2_, c6v2_, c7v2_, c8v2_, c9v2_, c10v2_, c11v2_, c12v2_, c13v2_, c14v2_, c15v2_, c16v2_, c17v2_, c0v1_, c1v1_, c2v1_, c3v1_, c4v1_, c5v1_, c6v1_, c7v1_, c8v1_, c9v1_, c10v1_, c11v1_, c12v1_, c13v1_, c14v1_, c15v1_, c16v1_, c17v1_, hi.2.1, hi.2.2.1, hi.2.2.2.1, hi.2.2.2.2.1, hi.2.2.2.2.2.1, hi.2.2.2.2.2.2.1, hi.2.2.2.2.2.2.2.1, hi.2.2.2.2.2.2.2.2.1, hi.2.2.2.2.2.2.2.2.2.1]
    have q7_ : M2_.1 104 0 = M2_.1 124 43 := by simp only [c0v2_, c1v2_, c2v2_, c3v2_, c4v2_, c5v2_, c6v2_, c7v2_, c8v2_, c9v2_, c10v2_, c11v2_, c12v2_, c13v2_, c14v2_, c15v2_, c16v2_, c17v2_, c0v1_, c1v1_, c2v1_, c3v1_, c4v1_, c5v1_, c6v1_, c7v1_, c8v1_, c9v1_, c10v1_, c11v1_, c12v1_, c13v1_, c14v1_, c15v1_, c16v1_, c17v1_, hi.2.1, hi.2.2.1, hi.2.2.2.1, hi.2.2.2.2.1, hi.2.2.2.2.2.1, hi.2.2.2.2.2.2.1, hi.2.2.2.2.2.2.2.1, hi.2.2.2.2.2.2.2.2.1, hi.2.2.2.2.2.2.2.2.2.1]
    have q8_ : M2_.1 105 0 = M2_.1 124 57 := by simp only [c0v2_, c1v2_, c2v2_, c3v2_, c4v2_, c5v2_, c6v2_, c7v2_, c8v2_, c9v2_, c10v2_, c11v2_, c12v2_, c13v2_, c14v2_, c15v2_, c16v2_, c17v2_, c0v1_, c1v1_, c2v1_, c3v1_, c4v1_, c5v1_, c6v1_, c7v1_, c8v1_, c9v1_, c10v1_, c11v1_, c12v1_, c13v1_, c14v1_, c15v1_, c16v1_, c17v1_, hi.2.1, hi.2.2.1, hi.2.2.2.1, hi.2.2.2.2.1, hi.2.2.2.2.2.1, hi.2.2.2.2.2.2.1, hi.2.2.2.2.2.2.2.1, hi.2.2.2.2.2.2.2.2.1, hi.2.2.2.2.2.2.2.2.2.1]
    exact ⟨q0_, q1_, q2_, q3_, q4_, q5_, q6_, q7_, q8_, zP1_k hi.2.2.2.2.2.2.2.2.2.2.1 (c0v2_.trans c0v1_) (zKc_t K1v1_ K1v2_) (zKm_t K3v1_ K3v2_), zP2_k hi.2.2.2.2.2.2.2.2.2.2.2.1 (c2v2_.trans c2v1_) (zKc_t K2v1_ K2v2_) (zKm_t K4v1_ K4v2_), zPT_k hi.2.2.2.2.2.2.2.2.2.2.2.2.1 T9v1_ T10v1_ T9v2_ T10v2_, zRr_k hi.2.2.2.2.2.2.2.2.2.2.2.2.2.1 (c8v2_.trans c8v1_) G1v1_ G3v1_ G1v2_ G3v2_, zRr_k hi.2.2.2.2.2.2.2.2.2.2.2.2.2.2.1 (c6v2_.trans c6v1_) G2v1_ G4v1_ G2v2_ G4v2_, zPH_k hi.2.2.2.2.2.2.2.2.2.2.2.2.2.2.2.1 A9v1_ A0v1_ A9v2_ A0v2_, zVe_k hi.2.2.2.2.2.2.2.2.2.2.2.2.2.2.2.2.1 (c0v2_.trans c0v1_) VSv1_ WSv1_ VSv2_ WSv2_, zVe_k hi.2.2.2.2.2.2.2.2.2.2.2.2.2.2.2.2.2.1 (c2v2_.trans c2v1_) VKv1_ WKv1_ VKv2_ WKv2_, zHW_d hi.1.1 hi.2.2.2.2.2.2.2.2.2.2.2.2.2.2.2.2.2.2 HBv1_ HDv1_ HBv2_ HDv2_⟩
  refine zr_pop C dL_law_973 rfl ?_
  refine zr_goto (tgt := 1337) C dL_law_974 (by decide) ?_
  exact kk M2_ ⟨iv2_, rv2_⟩
set_option maxRecDepth 10000 in
theorem zl_case_29 (htab : pvTab) {p : Program} {l : Launch} {e : Env} {s : State} {m : MethodId} {below : List Frame} {meth : Method} {c : Code} {b L : Nat} {xs : Nat → Int32} {D : va_G} {y : Nat → ClassId} {ad : Nat → Nat} {ls : Array Slot} {i : Int32} {Q : State → Prop} {M : pvM} (C : zLc p s m c b L xs D y ad ls i) (hi : zIR M) (kk : ∀ M1, zIR M1 → zLW p l e s m below meth c b D y ad ls Q 1337 [] M1) : zLW p l e s m below meth c b D y ad ls Q 977 [] M := by
  refine zr_x C dL_law_977 ?_
  refine zr_call htab (j := 178) (n := 0) (q := 0) (as := []) (rest := []) C rfl rfl rfl rfl (lw_X9_image M hi.1) (zgV zm_1101 zm_1102 zm_1103 zm_2 zm_1104) (by decide +kernel) rfl rfl rfl dL_law_978 rfl rfl (fun r M1_ h1_ => ?_)
  obtain ⟨⟨v1_, rfl, ev1_⟩, iv1_, c0v1_, c1v1_, c2v1_, c3v1_, c4v1_, c5v1_, c6v1_, c7v1_, c8v1_, c9v1_, c10v1_, c11v1_, c12v1_, c13v1_, c14v1_, c15v1_, c16v1_, c17v1_, K1v1_, K2v1_, K3v1_, K4v1_, T9v1_, T10v1_, G1v1_, G2v1_, G3v1_, G4v1_, A9v1_, A0v1_, VSv1_, VKv1_, WSv1_, WKv1_, HBv1_, HDv1_⟩ := h1_
  refine zr_pop C dL_law_981 rfl ?_
  refine zr_m C dL_law_982 ?_
  refine zr_call htab (j := 35) (n := 0) (q := 124) (as := []) (rest := []) C rfl rfl rfl rfl (lw_X10_image M1_ iv1_) (zgV zm_1119 zm_1120 zm_1121 zm_5 zm_1122) (by decide +kernel) rfl rfl rfl dL_law_983 rfl rfl (fun r M2_ h2_ => ?_)
  obtain ⟨⟨v2_, rfl, ev2_⟩, iv2_, c0v2_, c1v2_, c2v2_, c3v2_, c4v2_, c5v2_, c6v2_, c7v2_, c8v2_, c9v2_, c10v2_, c11v2_, c12v2_, c13v2_, c14v2_, c15v2_, c16v2_, c17v2_, K1v2_, K2v2_, K3v2_, K4v2_, T9v2_, T10v2_, G1v2_, G2v2_, G3v2_, G4v2_, A9v2_, A0v2_, VSv2_, VKv2_, WSv2_, WKv2_, HBv2_, HDv2_⟩ := h2_
  have rv2_ : zRl M2_ := by
    have q0_ : M2_.1 8 1 = M2_.1 124 0 := by simp only [c0v2_, c1v2_, c2v2_, c3v2_, c4v2_, c5v2_, c6v2_, c7v2_, c8v2_, c9v2_, c10v2_, c11v2_, c12v2_, c13v2_, c14v2_, c15v2_, c16v2_, c17v2_, c0v1_, c1v1_, c2v1_, c3v1_, c4v1_, c5v1_, c6v1_, c7v1_, c8v1_, c9v1_, c10v1_, c11v1_, c12v1_, c13v1_, c14v1_, c15v1_, c16v1_, c17v1_, hi.2.1, hi.2.2.1, hi.2.2.2.1, hi.2.2.2.2.1, hi.2.2.2.2.2.1, hi.2.2.2.2.2.2.1, hi.2.2.2.2.2.2.2.1, hi.2.2.2.2.2.2.2.2.1, hi.2.2.2.2.2.2.2.2.2.1]
    have q1_ : M2_.1 9 1 = M2_.1 124 48 := by simp only [c0v2_, c1v2_, c2v2_, c3v2_, c4v2_, c5v2_, c6v2_, c7v2_, c8v2_, c9v2_, c10v2_, c11v2_, c12v2_, c13v2_, c14v2_, c15v2_, c16v2_, c17v2_, c0v1_, c1v1_, c2v1_, c3v1_, c4v1_, c5v1_, c6v1_, c7v1_, c8v1_, c9v1_, c10v1_, c11v1_, c12v1_, c13v1_, c14v1_, c15v1_, c16v1_, c17v1_, hi.2.1, hi.2.2.1, hi.2.2.2.1, hi.2.2.2.2.1, hi.2.2.2.2.2.1, hi.2.2.2.2.2.2.1, hi.2.2.2.2.2.2.2.1, hi.2.2.2.2.2.2.2.2.1, hi.2.2.2.2.2.2.2.2.2.1]
    have q2_ : M2_.1 0 5 = M2_.1 124 46 := by simp only [c0v2_, c1v2_, c2v2_, c3v2_, c4v2_, c5v2_, c6v2_, c7v2_, c8v2_, c9v2_, c10v2_, c11v2_, c12v2_, c13v2_, c14v2_, c15v2_, c16v2_, c17v2_, c0v1_, c1v1_, c2v1_, c3v1_, c4v1_, c5v1_, c6v1_, c7v1_, c8v1_, c9v1_, c10v1_, c11v1_, c12v1_, c13v1_, c14v1_, c15v1_, c16v1_, c17v1_, hi.2.1, hi.2.2.1, hi.2.2.2.1, hi.2.2.2.2.1, hi.2.2.2.2.2.1, hi.2.2.2.2.2.2.1, hi.2.2.2.2.2.2.2.1, hi.2.2.2.2.2.2.2.2.1, hi.2.2.2.2.2.2.2.2.2.1]
    have q3_ : M2_.1 101 0 = M2_.1 124 55 := by simp only [c0v2_, c1v2_, c2v2_, c3v2_, c4v2_, c5v2_, c6v2_, c7v2_, c8v2_, c9v2_, c10v2_, c11v2_, c12v2_, c13v2_, c14v2_, c15v2_, c16v2_, c17v2_, c0v1_, c1v1_, c2v1_, c3v1_, c4v1_, c5v1_, c6v1_, c7v1_, c8v1_, c9v1_, c10v1_, c11v1_, c12v1_, c13v1_, c14v1_, c15v1_, c16v1_, c17v1_, hi.2.1, hi.2.2.1, hi.2.2.2.1, hi.2.2.2.2.1, hi.2.2.2.2.2.1, hi.2.2.2.2.2.2.1, hi.2.2.2.2.2.2.2.1, hi.2.2.2.2.2.2.2.2.1, hi.2.2.2.2.2.2.2.2.2.1]
    have q4_ : M2_.1 100 0 = M2_.1 124 37 := by simp only [c0v2_, c1v2_, c2v2_, c3v2_, c4v2_, c5v2_, c6v2_, c7v2_, c8v2_, c9v2_, c10v2_, c11v2_, c12v2_, c13v2_, c14v2_, c15v2_, c16v2_, c17v2_, c0v1_, c1v1_, c2v1_, c3v1_, c4v1_, c5v1_, c6v1_, c7v1_, c8v1_, c9v1_, c10v1_, c11v1_, c12v1_, c13v1_, c14v1_, c15v1_, c16v1_, c17v1_, hi.2.1, hi.2.2.1, hi.2.2.2.1, hi.2.2.2.2.1, hi.2.2.2.2.2.1, hi.2.2.2.2.2.2.1, hi.2.2.2.2.2.2.2.1, hi.2.2.2.2.2.2.2.2.1, hi.2.2.2.2.2.2.2.2.2.1]
    have q5_ : M2_.1 102 0 = M2_.1 124 40 := by simp only [c0v2_, c1v2_, c2v2_, c3v2_, c4v2_, c5v2_, c6v2_, c7v2_, c8v2_, c9v2_, c10v2_, c11v2_, c12v2_, c13v2_, c14v2_, c15v2_, c16v2_, c17v2_, c0v1_, c1v1_, c2v1_, c3v1_, c4v1_, c5v1_, c6v1_, c7v1_, c8v1_, c9v1_, c10v1_, c11v1_, c12v1_, c13v1_, c14v1_, c15v1_, c16v1_, c17v1_, hi.2.1, hi.2.2.1, hi.2.2.2.1, hi.2.2.2.2.1, hi.2.2.2.2.2.1, hi.2.2.2.2.2.2.1, hi.2.2.2.2.2.2.2.1, hi.2.2.2.2.2.2.2.2.1, hi.2.2.2.2.2.2.2.2.2.1]
    have q6_ : M2_.1 103 0 = M2_.1 124 56 := by simp only [c0v2_, c1v2_, c2v2_, c3v2_, c4v2_, c5v2_, c6v2_, c7v2_, c8v2_, c9v2_, c10v2_, c11v2_, c12v2_, c13v2_, c14v2_, c15v2_, c16v2_, c17v2_, c0v1_, c1v1_, c2v1_, c3v1_, c4v1_, c5v1_, c6v1_, c7v1_, c8v1_, c9v1_, c10v1_, c11v1_, c12v1_, c13v1_, c14v1_, c15v1_, c16v1_, c17v1_, hi.2.1, hi.2.2.1, hi.2.2.2.1, hi.2.2.2.2.1, hi.2.2.2.2.2.1, hi.2.2.2.2.2.2.1, hi.2.2.2.2.2.2.2.1, hi.2.2.2.2.2.2.2.2.1, hi.2.2.2.2.2.2.2.2.2.1]
    have q7_ : M2_.1 104 0 = M2_.1 124 43 := by simp only [c0v2_, c1v2_, c2v2_, c3v2_, c4v2_, c5v2_, c6v2_, c7v2_, c8v2_, c9v2_, c10v2_, c11v2_, c12v2_, c13v2_, c14v2_, c15v2_, c16v2_, c17v2_, c0v1_, c1v1_, c2v1_, c3v1_, c4v1_, c5v1_, c6v1_, c7v1_, c8v1_, c9v1_, c10v1_, c11v1_, c12v1_, c13v1_, c14v1_, c15v1_, c16v1_, c17v1_, hi.2.1, hi.2.2.1, hi.2.2.2.1, hi.2.2.2.2.1, hi.2.2.2.2.2.1, hi.2.2.2.2.2.2.1, hi.2.2.2.2.2.2.2.1, hi.2.2.2.2.2.2.2.2.1, hi.2.2.2.2.2.2.2.2.2.1]
    have q8_ : M2_.1 105 0 = M2_.1 124 57 := by simp only [c0v2_, c1v2_, c2v2_, c3v2_, c4v2_, c5v2_, c6v2_, c7v2_, c8v2_, c9v2_, c10v2_, c11v2_, c12v2_, c13v2_, c14v2_, c15v2_, c16v2_, c17v2_, c0v1_, c1v1_, c2v1_, c3v1_, c4v1_, c5v1_, c6v1_, c7v1_, c8v1_, c9v1_, c10v1_, c11v1_, c12v1_, c13v1_, c14v1_, c15v1_, c16v1_, c17v1_, hi.2.1, hi.2.2.1, hi.2.2.2.1, hi.2.2.2.2.1, hi.2.2.2.2.2.1, hi.2.2.2.2.2.2.1, hi.2.2.2.2.2.2.2.1, hi.2.2.2.2.2.2.2.2.1, hi.2.2.2.2.2.2.2.2.2.1]
    exact ⟨q0_, q1_, q2_, q3_, q4_, q5_, q6_, q7_, q8_, zP1_k hi.2.2.2.2.2.2.2.2.2.2.1 (c0v2_.trans c0v1_) (zKc_t K1v1_ K1v2_) (zKm_t K3v1_ K3v2_), zP2_i hi.2.2.2.2.2.2.2.2.2.2.1 K2v1_ K3v1_ K4v2_ K2v2_ (c2v2_.trans c2v1_), zPT_k hi.2.2.2.2.2.2.2.2.2.2.2.2.1 T9v1_ T10v1_ T9v2_ T10v2_, zRr_k hi.2.2.2.2.2.2.2.2.2.2.2.2.2.1 (c8v2_.trans c8v1_) G1v1_ G3v1_ G1v2_ G3v2_, zRr_i hi.2.2.2.2.2.2.2.2.2.2.2.2.2.1 G2v1_ rfl G3v1_ G4v2_ G2v2_ (c6v2_.trans c6v1_), zPH_k hi.2.2.2.2.2.2.2.2.2.2.2.2.2.2.2.1 A9v1_ A0v1_ A9v2_ A0v2_, zVe_k hi.2.2.2.2.2.2.2.2.2.2.2.2.2.2.2.2.1 (c0v2_.trans c0v1_) VSv1_ WSv1_ VSv2_ WSv2_, zVe_i hi.2.2.2.2.2.2.2.2.2.2.2.2.2.2.2.2.1 (c2v2_.trans c2v1_) (Or.inl (by decide)) VKv1_ WSv1_ VKv2_ WKv2_, zHW_i hi.1.1 hi.2.2.2.2.2.2.2.2.2.2.2.2.2.2.2.2.2.2 HBv1_ HDv1_ HBv2_ HDv2_⟩
  refine zr_pop C dL_law_986 rfl ?_
  refine zr_goto (tgt := 1337) C dL_law_987 (by decide) ?_
  exact kk M2_ ⟨iv2_, rv2_⟩
set_option maxRecDepth 10000 in
theorem zl_case_30 (htab : pvTab) {p : Program} {l : Launch} {e : Env} {s : State} {m : MethodId} {below : List Frame} {meth : Method} {c : Code} {b L : Nat} {xs : Nat → Int32} {D : va_G} {y : Nat → ClassId} {ad : Nat → Nat} {ls : Array Slot} {i : Int32} {Q : State → Prop} {M : pvM} (C : zLc p s m c b L xs D y ad ls i) (hi : zIR M) (kk : ∀ M1, zIR M1 → zLW p l e s m below meth c b D y ad ls Q 1337 [] M1) : zLW p l e s m below meth c b D y ad ls Q 990 [] M := by
  refine zr_x C dL_law_990 ?_
  refine zr_call htab (j := 208) (n := 0) (q := 0) (as := []) (rest := []) C rfl rfl rfl rfl (lw_X9_undo M hi.1) (zgV zm_1123 zm_1124 zm_1125 zm_2 zm_1126) (by decide +kernel) rfl rfl rfl dL_law_991 rfl rfl (fun r M1_ h1_ => ?_)
  obtain ⟨⟨v1_, rfl, ev1_⟩, iv1_, c0v1_, c1v1_, c2v1_, c3v1_, c4v1_, c5v1_, c6v1_, c7v1_, c8v1_, c9v1_, c10v1_, c11v1_, c12v1_, c13v1_, c14v1_, c15v1_, c16v1_, c17v1_, K1v1_, K2v1_, K3v1_, K4v1_, T9v1_, T10v1_, G1v1_, G2v1_, G3v1_, G4v1_, A9v1_, A0v1_, VSv1_, VKv1_, WSv1_, WKv1_, HBv1_, HDv1_⟩ := h1_
  refine zr_pop C dL_law_994 rfl ?_
  refine zr_m C dL_law_995 ?_
  refine zr_call htab (j := 94) (n := 0) (q := 124) (as := []) (rest := []) C rfl rfl rfl rfl (lw_X10_undo M1_ iv1_) (zgV zm_1127 zm_1128 zm_1129 zm_5 zm_1130) (by decide +kernel) rfl rfl rfl dL_law_996 rfl rfl (fun r M2_ h2_ => ?_)
  obtain ⟨⟨v2_, rfl, ev2_⟩, iv2_, c0v2_, c1v2_, c2v2_, c3v2_, c4v2_, c5v2_, c6v2_, c7v2_, c8v2_, c9v2_, c10v2_, c11v2_, c12v2_, c13v2_, c14v2_, c15v2_, c16v2_, c17v2_, K1v2_, K2v2_, K3v2_, K4v2_, T9v2_, T10v2_, G1v2_, G2v2_, G3v2_, G4v2_, A9v2_, A0v2_, VSv2_, VKv2_, WSv2_, WKv2_, HBv2_, HDv2_⟩ := h2_
  have rv2_ : zRl M2_ := by
    have q0_ : M2_.1 8 1 = M2_.1 124 0 := by simp only [c0v2_, c1v2_, c2v2_, c3v2_, c4v2_, c5v2_, c6v2_, c7v2_, c8v2_, c9v2_, c10v2_, c11v2_, c12v2_, c13v2_, c14v2_, c15v2_, c16v2_, c17v2_, c0v1_, c1v1_, c2v1_, c3v1_, c4v1_, c5v1_, c6v1_, c7v1_, c8v1_, c9v1_, c10v1_, c11v1_, c12v1_, c13v1_, c14v1_, c15v1_, c16v1_, c17v1_, hi.2.1, hi.2.2.1, hi.2.2.2.1, hi.2.2.2.2.1, hi.2.2.2.2.2.1, hi.2.2.2.2.2.2.1, hi.2.2.2.2.2.2.2.1, hi.2.2.2.2.2.2.2.2.1, hi.2.2.2.2.2.2.2.2.2.1]
    have q1_ : M2_.1 9 1 = M2_.1 124 48 := by simp only [c0v2_, c1v2_, c2v2_, c3v2_, c4v2_, c5v2_, c6v2_, c7v2_, c8v2_, c9v2_, c10v2_, c11v2_, c12v2_, c13v2_, c14v2_, c15v2_, c16v2_, c17v2_, c0v1_, c1v1_, c2v1_, c3v1_, c4v1_, c5v1_, c6v1_, c7v1_, c8v1_, c9v1_, c10v1_, c11v1_, c12v1_, c13v1_, c14v1_, c15v1_, c16v1_, c17v1_, hi.2.1, hi.2.2.1, hi.2.2.2.1, hi.2.2.2.2.1, hi.2.2.2.2.2.1, hi.2.2.2.2.2.2.1, hi.2.2.2.2.2.2.2.1, hi.2.2.2.2.2.2.2.2.1, hi.2.2.2.2.2.2.2.2.2.1]
    have q2_ : M2_.1 0 5 = M2_.1 124 46 := by simp only [c0v2_, c1v2_, c2v2_, c3v2_, c4v2_, c5v2_, c6v2_, c7v2_, c8v2_, c9v2_, c10v2_, c11v2_, c12v2_, c13v2_, c14v2_, c15v2_, c16v2_, c17v2_, c0v1_, c1v1_, c2v1_, c3v1_, c4v1_, c5v1_, c6v1_, c7v1_, c8v1_, c9v1_, c10v1_, c11v1_, c12v1_, c13v1_, c14v1_, c15v1_, c16v1_, c17v1_, hi.2.1, hi.2.2.1, hi.2.2.2.1, hi.2.2.2.2.1, hi.2.2.2.2.2.1, hi.2.2.2.2.2.2.1, hi.2.2.2.2.2.2.2.1, hi.2.2.2.2.2.2.2.2.1, hi.2.2.2.2.2.2.2.2.2.1]
    have q3_ : M2_.1 101 0 = M2_.1 124 55 := by simp only [c0v2_, c1v2_, c2v2_, c3v2_, c4v2_, c5v2_, c6v2_, c7v2_, c8v2_, c9v2_, c10v2_, c11v2_, c12v2_, c13v2_, c14v2_, c15v2_, c16v2_, c17v2_, c0v1_, c1v1_, c2v1_, c3v1_, c4v1_, c5v1_, c6v1_, c7v1_, c8v1_, c9v1_, c10v1_, c11v1_, c12v1_, c13v1_, c14v1_, c15v1_, c16v1_, c17v1_, hi.2.1, hi.2.2.1, hi.2.2.2.1, hi.2.2.2.2.1, hi.2.2.2.2.2.1, hi.2.2.2.2.2.2.1, hi.2.2.2.2.2.2.2.1, hi.2.2.2.2.2.2.2.2.1, hi.2.2.2.2.2.2.2.2.2.1]
    have q4_ : M2_.1 100 0 = M2_.1 124 37 := by simp only [c0v2_, c1v2_, c2v2_, c3v2_, c4v2_, c5v2_, c6v2_, c7v2_, c8v2_, c9v2_, c10v2_, c11v2_, c12v2_, c13v2_, c14v2_, c15v2_, c16v2_, c17v2_, c0v1_, c1v1_, c2v1_, c3v1_, c4v1_, c5v1_, c6v1_, c7v1_, c8v1_, c9v1_, c10v1_, c11v1_, c12v1_, c13v1_, c14v1_, c15v1_, c16v1_, c17v1_, hi.2.1, hi.2.2.1, hi.2.2.2.1, hi.2.2.2.2.1, hi.2.2.2.2.2.1, hi.2.2.2.2.2.2.1, hi.2.2.2.2.2.2.2.1, hi.2.2.2.2.2.2.2.2.1, hi.2.2.2.2.2.2.2.2.2.1]
    have q5_ : M2_.1 102 0 = M2_.1 124 40 := by simp only [c0v2_, c1v2_, c2v2_, c3v2_, c4v2_, c5v2_, c6v2_, c7v2_, c8v2_, c9v2_, c10v2_, c11v2_, c12v2_, c13v2_, c14v2_, c15v2_, c16v2_, c17v2_, c0v1_, c1v1_, c2v1_, c3v1_, c4v1_, c5v1_, c6v1_, c7v1_, c8v1_, c9v1_, c10v1_, c11v1_, c12v1_, c13v1_, c14v1_, c15v1_, c16v1_, c17v1_, hi.2.1, hi.2.2.1, hi.2.2.2.1, hi.2.2.2.2.1, hi.2.2.2.2.2.1, hi.2.2.2.2.2.2.1, hi.2.2.2.2.2.2.2.1, hi.2.2.2.2.2.2.2.2.1, hi.2.2.2.2.2.2.2.2.2.1]
    have q6_ : M2_.1 103 0 = M2_.1 124 56 := by simp only [c0v2_, c1v2_, c2v2_, c3v2_, c4v2_, c5v2_, c6v2_, c7v2_, c8v2_, c9v2_, c10v2_, c11v2_, c12v2_, c13v2_, c14v2_, c15v2_, c16v2_, c17v2_, c0v1_, c1v1_, c2v1_, c3v1_, c4v1_, c5v1_, c6v1_, c7v1_, c8v1_, c9v1_, c10v1_, c11v1_, c12v1_, c13v1_, c14v1_, c15v1_, c16v1_, c17v1_, hi.2.1, hi.2.2.1, hi.2.2.2.1, hi.2.2.2.2.1, hi.2.2.2.2.2.1, hi.2.2.2.2.2.2.1, hi.2.2.2.2.2.2.2.1, hi.2.2.2.2.2.2.2.2.1, hi.2.2.2.2.2.2.2.2.2.1]
    have q7_ : M2_.1 104 0 = M2_.1 124 43 := by simp only [c0v2_, c1v2_, c2v2_, c3v2_, c4v2_, c5v2_, c6v2_, c7v2_, c8v2_, c9v2_, c10v2_, c11v2_, c12v2_, c13v2_, c14v2_, c15v2_, c16v2_, c17v2_, c0v1_, c1v1_, c2v1_, c3v1_, c4v1_, c5v1_, c6v1_, c7v1_, c8v1_, c9v1_, c10v1_, c11v1_, c12v1_, c13v1_, c14v1_, c15v1_, c16v1_, c17v1_, hi.2.1, hi.2.2.1, hi.2.2.2.1, hi.2.2.2.2.1, hi.2.2.2.2.2.1, hi.2.2.2.2.2.2.1, hi.2.2.2.2.2.2.2.1, hi.2.2.2.2.2.2.2.2.1, hi.2.2.2.2.2.2.2.2.2.1]
    have q8_ : M2_.1 105 0 = M2_.1 124 57 := by simp only [c0v2_, c1v2_, c2v2_, c3v2_, c4v2_, c5v2_, c6v2_, c7v2_, c8v2_, c9v2_, c10v2_, c11v2_, c12v2_, c13v2_, c14v2_, c15v2_, c16v2_, c17v2_, c0v1_, c1v1_, c2v1_, c3v1_, c4v1_, c5v1_, c6v1_, c7v1_, c8v1_, c9v1_, c10v1_, c11v1_, c12v1_, c13v1_, c14v1_, c15v1_, c16v1_, c17v1_, hi.2.1, hi.2.2.1, hi.2.2.2.1, hi.2.2.2.2.1, hi.2.2.2.2.2.1, hi.2.2.2.2.2.2.1, hi.2.2.2.2.2.2.2.1, hi.2.2.2.2.2.2.2.2.1, hi.2.2.2.2.2.2.2.2.2.1]
    exact ⟨q0_, q1_, q2_, q3_, q4_, q5_, q6_, q7_, q8_, zP1_u hi.2.2.2.2.2.2.2.2.2.2.1 hi.2.2.2.2.2.2.2.2.2.2.2.1 hi.2.2.2.1 K1v1_ K3v1_ K4v1_ c5v1_ K3v2_ K1v2_ (c0v2_.trans c0v1_), zP2_k hi.2.2.2.2.2.2.2.2.2.2.2.1 (c2v2_.trans c2v1_) (zKc_t K2v1_ K2v2_) (zKm_t K4v1_ K4v2_), zPT_k hi.2.2.2.2.2.2.2.2.2.2.2.2.1 T9v1_ T10v1_ T9v2_ T10v2_, zRr_u hi.2.2.2.2.2.2.2.2.2.2.2.2.2.1 hi.2.2.2.2.2.2.2.2.2.2.2.2.2.2.1 hi.2.2.2.1 G1v1_ rfl G3v1_ G4v1_ c5v1_ G3v2_ G1v2_ (fun z => c8v2_.trans (c8v1_.trans (if_pos z))) (fun z => c8v2_.trans (c8v1_.trans (if_neg z))), zRr_k hi.2.2.2.2.2.2.2.2.2.2.2.2.2.2.1 (c6v2_.trans c6v1_) G2v1_ G4v1_ G2v2_ G4v2_, zPH_k hi.2.2.2.2.2.2.2.2.2.2.2.2.2.2.2.1 A9v1_ A0v1_ A9v2_ A0v2_, zVe_u hi.2.2.2.2.2.2.2.2.2.2.2.2.2.2.2.2.1 hi.2.2.2.2.2.2.2.2.2.2.2.2.2.2.2.2.2.1 (c5v1_.trans hi.2.2.2.1.symm) (fun z => c0v2_.trans (c0v1_.trans (if_pos z))) (fun z => c0v2_.trans (c0v1_.trans (if_neg z))) (Or.inl (by decide)) VSv1_ WSv1_ WKv1_ VSv2_ WSv2_, zVe_k hi.2.2.2.2.2.2.2.2.2.2.2.2.2.2.2.2.2.1 (c2v2_.trans c2v1_) VKv1_ WKv1_ VKv2_ WKv2_, zHW_u hi.1.1 hi.2.2.2.2.2.2.2.2.2.2.2.2.2.2.2.2.2.2 (c5v1_.trans hi.2.2.2.1.symm) HBv1_ HDv1_ HBv2_ HDv2_⟩
  refine zr_pop C dL_law_999 rfl ?_
  refine zr_goto (tgt := 1337) C dL_law_1000 (by decide) ?_
  exact kk M2_ ⟨iv2_, rv2_⟩
set_option maxRecDepth 10000 in
theorem zl_case_31 (htab : pvTab) {p : Program} {l : Launch} {e : Env} {s : State} {m : MethodId} {below : List Frame} {meth : Method} {c : Code} {b L : Nat} {xs : Nat → Int32} {D : va_G} {y : Nat → ClassId} {ad : Nat → Nat} {ls : Array Slot} {i : Int32} {Q : State → Prop} {M : pvM} (C : zLc p s m c b L xs D y ad ls i) (hi : zIR M) (kk : ∀ M1, zIR M1 → zLW p l e s m below meth c b D y ad ls Q 1337 [] M1) : zLW p l e s m below meth c b D y ad ls Q 1003 [] M := by
  refine zr_x C dL_law_1003 ?_
  refine zr_arg 1 C dL_law_1004 dL_law_1005 dL_law_1006 dL_law_1007 dL_law_1008 (by decide) (by decide) ?_
  refine zr_arg 2 C dL_law_1009 dL_law_1010 dL_law_1011 dL_law_1012 dL_law_1013 (by decide) (by decide) ?_
  refine zr_arg 3 C dL_law_1014 dL_law_1015 dL_law_1016 dL_law_1017 dL_law_1018 (by decide) (by decide) ?_
  refine zr_call htab (j := 166) (n := 3) (q := 0) (as := [pvI (xs (i + 1).toNatClampNeg), pvI (xs (i + 2).toNatClampNeg), pvI (xs (i + 3).toNatClampNeg)]) (rest := []) C rfl rfl rfl rfl (lw_X9_act M hi.1 (xs (i + 1).toNatClampNeg) (xs (i + 2).toNatClampNeg) (xs (i + 3).toNatClampNeg)) (zgV zm_1131 zm_1132 zm_1133 zm_2 zm_1134) (by decide +kernel) rfl rfl rfl dL_law_1019 rfl rfl (fun r M1_ h1_ => ?_)
  obtain ⟨⟨v1_, rfl, ev1_⟩, iv1_, c0v1_, c1v1_, c2v1_, c3v1_, c4v1_, c5v1_, c6v1_, c7v1_, c8v1_, c9v1_, c10v1_, c11v1_, c12v1_, c13v1_, c14v1_, c15v1_, c16v1_, c17v1_, K1v1_, K2v1_, K3v1_, K4v1_, T9v1_, T10v1_, G1v1_, G2v1_, G3v1_, G4v1_, A9v1_, A0v1_, VSv1_, VKv1_, WSv1_, WKv1_, HBv1_, HDv1_⟩ := h1_
  refine zr_pop C dL_law_1022 rfl ?_
  refine zr_m C dL_law_1023 ?_
  refine zr_arg 1 C dL_law_1024 dL_law_1025 dL_law_1026 dL_law_1027 dL_law_1028 (by decide) (by decide) ?_
  refine zr_arg 2 C dL_law_1029 dL_law_1030 dL_law_1031 dL_law_1032 dL_law_1033 (by decide) (by decide) ?_
  refine zr_arg 3 C dL_law_1034 dL_law_1035 dL_law_1036 dL_law_1037 dL_law_1038 (by decide) (by decide) ?_
  refine zr_call htab (j := 5) (n := 3) (q := 124) (as := [pvI (xs (i + 1).toNatClampNeg), pvI (xs (i + 2).toNatClampNeg), pvI (xs (i + 3).toNatClampNeg)]) (rest := []) C rfl rfl rfl rfl (lw_X10_act M1_ iv1_ (xs (i + 1).toNatClampNeg) (xs (i + 2).toNatClampNeg) (xs (i + 3).toNatClampNeg)) (zgV zm_1158 zm_1159 zm_1160 zm_5 zm_1161) (by decide +kernel) rfl rfl rfl dL_law_1039 rfl rfl (fun r M2_ h2_ => ?_)
  obtain ⟨⟨v2_, rfl, ev2_⟩, iv2_, c0v2_, c1v2_, c2v2_, c3v2_, c4v2_, c5v2_, c6v2_, c7v2_, c8v2_, c9v2_, c10v2_, c11v2_, c12v2_, c13v2_, c14v2_, c15v2_, c16v2_, c17v2_, K1v2_, K2v2_, K3v2_, K4v2_, T9v2_, T10v2_, G1v2_, G2v2_, G3v2_, G4v2_, A9v2_, A0v2_, VSv2_, VKv2_, WSv2_, WKv2_, HBv2_, HDv2_⟩ := h2_
  have rv2_ : zRl M2_ := by
    have q0_ : M2_.1 8 1 = M2_.1 124 0 := by simp only [c0v2_, c1v2_, c2v2_, c3v2_, c4v2_, c5v2_, c6v2_, c7v2_, c8v2_, c9v2_, c10v2_, c11v2_, c12v2_, c13v2_, c14v2_, c15v2_, c16v2_, c17v2_, c0v1_, c1v1_, c2v1_, c3v1_, c4v1_, c5v1_, c6v1_, c7v1_, c8v1_, c9v1_, c10v1_, c11v1_, c12v1_, c13v1_, c14v1_, c15v1_, c16v1_, c17v1_, hi.2.1, hi.2.2.1, hi.2.2.2.1, hi.2.2.2.2.1, hi.2.2.2.2.2.1, hi.2.2.2.2.2.2.1, hi.2.2.2.2.2.2.2.1, hi.2.2.2.2.2.2.2.2.1, hi.2.2.2.2.2.2.2.2.2.1]
    have q1_ : M2_.1 9 1 = M2_.1 124 48 := by simp only [c0v2_, c1v2_, c2v2_, c3v2_, c4v2_, c5v2_, c6v2_, c7v2_, c8v2_, c9v2_, c10v2_, c11v2_, c12v2_, c13v2_, c14v2_, c15v2_, c16v2_, c17v2_, c0v1_, c1v1_, c2v1_, c3v1_, c4v1_, c5v1_, c6v1_, c7v1_, c8v1_, c9v1_, c10v1_, c11v1_, c12v1_, c13v1_, c14v1_, c15v1_, c16v1_, c17v1_, hi.2.1, hi.2.2.1, hi.2.2.2.1, hi.2.2.2.2.1, hi.2.2.2.2.2.1, hi.2.2.2.2.2.2.1, hi.2.2.2.2.2.2.2.1, hi.2.2.2.2.2.2.2.2.1, hi.2.2.2.2.2.2.2.2.2.1]
    have q2_ : M2_.1 0 5 = M2_.1 124 46 := by simp only [c0v2_, c1v2_, c2v2_, c3v2_, c4v2_, c5v2_, c6v2_, c7v2_, c8v2_, c9v2_, c10v2_, c11v2_, c12v2_, c13v2_, c14v2_, c15v2_, c16v2_, c17v2_, c0v1_, c1v1_, c2v1_, c3v1_, c4v1_, c5v1_, c6v1_, c7v1_, c8v1_, c9v1_, c10v1_, c11v1_, c12v1_, c13v1_, c14v1_, c15v1_, c16v1_, c17v1_, hi.2.1, hi.2.2.1, hi.2.2.2.1, hi.2.2.2.2.1, hi.2.2.2.2.2.1, hi.2.2.2.2.2.2.1, hi.2.2.2.2.2.2.2.1, hi.2.2.2.2.2.2.2.2.1, hi.2.2.2.2.2.2.2.2.2.1]
    have q3_ : M2_.1 101 0 = M2_.1 124 55 := by simp only [c0v2_, c1v2_, c2v2_, c3v2_, c4v2_, c5v2_, c6v2_, c7v2_, c8v2_, c9v2_, c10v2_, c11v2_, c12v2_, c13v2_, c14v2_, c15v2_, c16v2_, c17v2_, c0v1_, c1v1_, c2v1_, c3v1_, c4v1_, c5v1_, c6v1_, c7v1_, c8v1_, c9v1_, c10v1_, c11v1_, c12v1_, c13v1_, c14v1_, c15v1_, c16v1_, c17v1_, hi.2.1, hi.2.2.1, hi.2.2.2.1, hi.2.2.2.2.1, hi.2.2.2.2.2.1, hi.2.2.2.2.2.2.1, hi.2.2.2.2.2.2.2.1, hi.2.2.2.2.2.2.2.2.1, hi.2.2.2.2.2.2.2.2.2.1]
    have q4_ : M2_.1 100 0 = M2_.1 124 37 := by simp only [c0v2_, c1v2_, c2v2_, c3v2_, c4v2_, c5v2_, c6v2_, c7v2_, c8v2_, c9v2_, c10v2_, c11v2_, c12v2_, c13v2_, c14v2_, c15v2_, c16v2_, c17v2_, c0v1_, c1v1_, c2v1_, c3v1_, c4v1_, c5v1_, c6v1_, c7v1_, c8v1_, c9v1_, c10v1_, c11v1_, c12v1_, c13v1_, c14v1_, c15v1_, c16v1_, c17v1_, hi.2.1, hi.2.2.1, hi.2.2.2.1, hi.2.2.2.2.1, hi.2.2.2.2.2.1, hi.2.2.2.2.2.2.1, hi.2.2.2.2.2.2.2.1, hi.2.2.2.2.2.2.2.2.1, hi.2.2.2.2.2.2.2.2.2.1]
    have q5_ : M2_.1 102 0 = M2_.1 124 40 := by simp only [c0v2_, c1v2_, c2v2_, c3v2_, c4v2_, c5v2_, c6v2_, c7v2_, c8v2_, c9v2_, c10v2_, c11v2_, c12v2_, c13v2_, c14v2_, c15v2_, c16v2_, c17v2_, c0v1_, c1v1_, c2v1_, c3v1_, c4v1_, c5v1_, c6v1_, c7v1_, c8v1_, c9v1_, c10v1_, c11v1_, c12v1_, c13v1_, c14v1_, c15v1_, c16v1_, c17v1_, hi.2.1, hi.2.2.1, hi.2.2.2.1, hi.2.2.2.2.1, hi.2.2.2.2.2.1, hi.2.2.2.2.2.2.1, hi.2.2.2.2.2.2.2.1, hi.2.2.2.2.2.2.2.2.1, hi.2.2.2.2.2.2.2.2.2.1]
    have q6_ : M2_.1 103 0 = M2_.1 124 56 := by simp only [c0v2_, c1v2_, c2v2_, c3v2_, c4v2_, c5v2_, c6v2_, c7v2_, c8v2_, c9v2_, c10v2_, c11v2_, c12v2_, c13v2_, c14v2_, c15v2_, c16v2_, c17v2_, c0v1_, c1v1_, c2v1_, c3v1_, c4v1_, c5v1_, c6v1_, c7v1_, c8v1_, c9v1_, c10v1_, c11v1_, c12v1_, c13v1_, c14v1_, c15v1_, c16v1_, c17v1_, hi.2.1, hi.2.2.1, hi.2.2.2.1, hi.2.2.2.2.1, hi.2.2.2.2.2.1, hi.2.2.2.2.2.2.1, hi.2.2.2.2.2.2.2.1, hi.2.2.2.2.2.2.2.2.1, hi.2.2.2.2.2.2.2.2.2.1]
    have q7_ : M2_.1 104 0 = M2_.1 124 43 := by simp only [c0v2_, c1v2_, c2v2_, c3v2_, c4v2_, c5v2_, c6v2_, c7v2_, c8v2_, c9v2_, c10v2_, c11v2_, c12v2_, c13v2_, c14v2_, c15v2_, c16v2_, c17v2_, c0v1_, c1v1_, c2v1_, c3v1_, c4v1_, c5v1_, c6v1_, c7v1_, c8v1_, c9v1_, c10v1_, c11v1_, c12v1_, c13v1_, c14v1_, c15v1_, c16v1_, c17v1_, hi.2.1, hi.2.2.1, hi.2.2.2.1, hi.2.2.2.2.1, hi.2.2.2.2.2.1, hi.2.2.2.2.2.2.1, hi.2.2.2.2.2.2.2.1, hi.2.2.2.2.2.2.2.2.1, hi.2.2.2.2.2.2.2.2.2.1]
    have q8_ : M2_.1 105 0 = M2_.1 124 57 := by simp only [c0v2_, c1v2_, c2v2_, c3v2_, c4v2_, c5v2_, c6v2_, c7v2_, c8v2_, c9v2_, c10v2_, c11v2_, c12v2_, c13v2_, c14v2_, c15v2_, c16v2_, c17v2_, c0v1_, c1v1_, c2v1_, c3v1_, c4v1_, c5v1_, c6v1_, c7v1_, c8v1_, c9v1_, c10v1_, c11v1_, c12v1_, c13v1_, c14v1_, c15v1_, c16v1_, c17v1_, hi.2.1, hi.2.2.1, hi.2.2.2.1, hi.2.2.2.2.1, hi.2.2.2.2.2.1, hi.2.2.2.2.2.2.1, hi.2.2.2.2.2.2.2.1, hi.2.2.2.2.2.2.2.2.1, hi.2.2.2.2.2.2.2.2.2.1]
    exact ⟨q0_, q1_, q2_, q3_, q4_, q5_, q6_, q7_, q8_, zP1_k hi.2.2.2.2.2.2.2.2.2.2.1 (c0v2_.trans c0v1_) (zKc_t K1v1_ K1v2_) (zKm_t K3v1_ K3v2_), zP2_k hi.2.2.2.2.2.2.2.2.2.2.2.1 (c2v2_.trans c2v1_) (zKc_t K2v1_ K2v2_) (zKm_t K4v1_ K4v2_), zPT_a T9v1_ T9v2_ (zTs_e (zq_tr M M1_ (c1v1_.trans hi.2.1.symm) (pvok_r hi.1.1 8 1 rfl) (fun i hi_ hn => ⟨fun f hf => ((hi.2.2.2.2.2.2.2.2.2.2.1 i hi_ hn).1 f hf).trans ((K3v1_ i hi_).1 f hf).symm, fun j hj => ((hi.2.2.2.2.2.2.2.2.2.2.1 i hi_ hn).2 j hj).trans ((K3v1_ i hi_).2 j hj).symm⟩) (fun i hi_ => match i, hi_ with | 0, _ => pvok_r hi.1.1 60 0 rfl | 1, _ => pvok_r hi.1.1 61 0 rfl | 2, _ => pvok_r hi.1.1 62 0 rfl | 3, _ => pvok_r hi.1.1 63 0 rfl | 4, _ => pvok_r hi.1.1 64 0 rfl | 5, _ => pvok_r hi.1.1 65 0 rfl | 6, _ => pvok_r hi.1.1 66 0 rfl | i + 7, z => absurd z (by omega)) _ _) T10v2_), zRr_k hi.2.2.2.2.2.2.2.2.2.2.2.2.2.1 (c8v2_.trans c8v1_) G1v1_ G3v1_ G1v2_ G3v2_, zRr_k hi.2.2.2.2.2.2.2.2.2.2.2.2.2.2.1 (c6v2_.trans c6v1_) G2v1_ G4v1_ G2v2_ G4v2_, zPH_k hi.2.2.2.2.2.2.2.2.2.2.2.2.2.2.2.1 A9v1_ A0v1_ A9v2_ A0v2_, zVe_k hi.2.2.2.2.2.2.2.2.2.2.2.2.2.2.2.2.1 (c0v2_.trans c0v1_) VSv1_ WSv1_ VSv2_ WSv2_, zVe_k hi.2.2.2.2.2.2.2.2.2.2.2.2.2.2.2.2.2.1 (c2v2_.trans c2v1_) VKv1_ WKv1_ VKv2_ WKv2_, zHW_d hi.1.1 hi.2.2.2.2.2.2.2.2.2.2.2.2.2.2.2.2.2.2 HBv1_ HDv1_ HBv2_ HDv2_⟩
  refine zr_pop C dL_law_1042 rfl ?_
  refine zr_goto (tgt := 1337) C dL_law_1043 (by decide) ?_
  exact kk M2_ ⟨iv2_, rv2_⟩
set_option maxRecDepth 10000 in
theorem zl_case_32 (htab : pvTab) {p : Program} {l : Launch} {e : Env} {s : State} {m : MethodId} {below : List Frame} {meth : Method} {c : Code} {b L : Nat} {xs : Nat → Int32} {D : va_G} {y : Nat → ClassId} {ad : Nat → Nat} {ls : Array Slot} {i : Int32} {Q : State → Prop} {M : pvM} (C : zLc p s m c b L xs D y ad ls i) (hi : zIR M) (kk : ∀ M1, zIR M1 → zLW p l e s m below meth c b D y ad ls Q 1337 [] M1) : zLW p l e s m below meth c b D y ad ls Q 1046 [] M := by
  refine zr_x C dL_law_1046 ?_
  refine zr_arg 1 C dL_law_1047 dL_law_1048 dL_law_1049 dL_law_1050 dL_law_1051 (by decide) (by decide) ?_
  refine zr_call htab (j := 206) (n := 1) (q := 0) (as := [pvI (xs (i + 1).toNatClampNeg)]) (rest := []) C rfl rfl rfl rfl (lw_X9_trace M hi.1 (xs (i + 1).toNatClampNeg)) (zgV zm_1194 zm_1195 zm_1196 zm_2 zm_1197) (by decide +kernel) rfl rfl rfl dL_law_1052 rfl rfl (fun r M1_ h1_ => ?_)
  obtain ⟨⟨v1_, rfl, ev1_⟩, iv1_, c0v1_, c1v1_, c2v1_, c3v1_, c4v1_, c5v1_, c6v1_, c7v1_, c8v1_, c9v1_, c10v1_, c11v1_, c12v1_, c13v1_, c14v1_, c15v1_, c16v1_, c17v1_, K1v1_, K2v1_, K3v1_, K4v1_, T9v1_, T10v1_, G1v1_, G2v1_, G3v1_, G4v1_, A9v1_, A0v1_, VSv1_, VKv1_, WSv1_, WKv1_, HBv1_, HDv1_⟩ := h1_
  refine zr_pop C dL_law_1055 rfl ?_
  refine zr_m C dL_law_1056 ?_
  refine zr_arg 1 C dL_law_1057 dL_law_1058 dL_law_1059 dL_law_1060 dL_law_1061 (by decide) (by decide) ?_
  refine zr_call htab (j := 92) (n := 1) (q := 124) (as := [pvI (xs (i + 1).toNatClampNeg)]) (rest := []) C rfl rfl rfl rfl (lw_X10_trace M1_ iv1_ (xs (i + 1).toNatClampNeg)) (zgV zm_1199 zm_1200 zm_1201 zm_5 zm_1202) (by decide +kernel) rfl rfl rfl dL_law_1062 rfl rfl (fun r M2_ h2_ => ?_)
  obtain ⟨⟨v2_, rfl, ev2_⟩, iv2_, c0v2_, c1v2_, c2v2_, c3v2_, c4v2_, c5v2_, c6v2_, c7v2_, c8v2_, c9v2_, c10v2_, c11v2_, c12v2_, c13v2_, c14v2_, c15v2_, c16v2_, c17v2_, K1v2_, K2v2_, K3v2_, K4v2_, T9v2_, T10v2_, G1v2_, G2v2_, G3v2_, G4v2_, A9v2_, A0v2_, VSv2_, VKv2_, WSv2_, WKv2_, HBv2_, HDv2_⟩ := h2_
  have rv2_ : zRl M2_ := by
    have q0_ : M2_.1 8 1 = M2_.1 124 0 := by simp only [c0v2_, c1v2_, c2v2_, c3v2_, c4v2_, c5v2_, c6v2_, c7v2_, c8v2_, c9v2_, c10v2_, c11v2_, c12v2_, c13v2_, c14v2_, c15v2_, c16v2_, c17v2_, c0v1_, c1v1_, c2v1_, c3v1_, c4v1_, c5v1_, c6v1_, c7v1_, c8v1_, c9v1_, c10v1_, c11v1_, c12v1_, c13v1_, c14v1_, c15v1_, c16v1_, c17v1_, hi.2.1, hi.2.2.1, hi.2.2.2.1, hi.2.2.2.2.1, hi.2.2.2.2.2.1, hi.2.2.2.2.2.2.1, hi.2.2.2.2.2.2.2.1, hi.2.2.2.2.2.2.2.2.1, hi.2.2.2.2.2.2.2.2.2.1]
    have q1_ : M2_.1 9 1 = M2_.1 124 48 := by simp only [c0v2_, c1v2_, c2v2_, c3v2_, c4v2_, c5v2_, c6v2_, c7v2_, c8v2_, c9v2_, c10v2_, c11v2_, c12v2_, c13v2_, c14v2_, c15v2_, c16v2_, c17v2_, c0v1_, c1v1_, c2v1_, c3v1_, c4v1_, c5v1_, c6v1_, c7v1_, c8v1_, c9v1_, c10v1_, c11v1_, c12v1_, c13v1_, c14v1_, c15v1_, c16v1_, c17v1_, hi.2.1, hi.2.2.1, hi.2.2.2.1, hi.2.2.2.2.1, hi.2.2.2.2.2.1, hi.2.2.2.2.2.2.1, hi.2.2.2.2.2.2.2.1, hi.2.2.2.2.2.2.2.2.1, hi.2.2.2.2.2.2.2.2.2.1]
    have q2_ : M2_.1 0 5 = M2_.1 124 46 := by simp only [c0v2_, c1v2_, c2v2_, c3v2_, c4v2_, c5v2_, c6v2_, c7v2_, c8v2_, c9v2_, c10v2_, c11v2_, c12v2_, c13v2_, c14v2_, c15v2_, c16v2_, c17v2_, c0v1_, c1v1_, c2v1_, c3v1_, c4v1_, c5v1_, c6v1_, c7v1_, c8v1_, c9v1_, c10v1_, c11v1_, c12v1_, c13v1_, c14v1_, c15v1_, c16v1_, c17v1_, hi.2.1, hi.2.2.1, hi.2.2.2.1, hi.2.2.2.2.1, hi.2.2.2.2.2.1, hi.2.2.2.2.2.2.1, hi.2.2.2.2.2.2.2.1, hi.2.2.2.2.2.2.2.2.1, hi.2.2.2.2.2.2.2.2.2.1]
    have q3_ : M2_.1 101 0 = M2_.1 124 55 := by simp only [c0v2_, c1v2_, c2v2_, c3v2_, c4v2_, c5v2_, c6v2_, c7v2_, c8v2_, c9v2_, c10v2_, c11v2_, c12v2_, c13v2_, c14v2_, c15v2_, c16v2_, c17v2_, c0v1_, c1v1_, c2v1_, c3v1_, c4v1_, c5v1_, c6v1_, c7v1_, c8v1_, c9v1_, c10v1_, c11v1_, c12v1_, c13v1_, c14v1_, c15v1_, c16v1_, c17v1_, hi.2.1, hi.2.2.1, hi.2.2.2.1, hi.2.2.2.2.1, hi.2.2.2.2.2.1, hi.2.2.2.2.2.2.1, hi.2.2.2.2.2.2.2.1, hi.2.2.2.2.2.2.2.2.1, hi.2.2.2.2.2.2.2.2.2.1]
    have q4_ : M2_.1 100 0 = M2_.1 124 37 := by simp only [c0v2_, c1v2_, c2v2_, c3v2_, c4v2_, c5v2_, c6v2_, c7v2_, c8v2_, c9v2_, c10v2_, c11v2_, c12v2_, c13v2_, c14v2_, c15v2_, c16v2_, c17v2_, c0v1_, c1v1_, c2v1_, c3v1_, c4v1_, c5v1_, c6v1_, c7v1_, c8v1_, c9v1_, c10v1_, c11v1_, c12v1_, c13v1_, c14v1_, c15v1_, c16v1_, c17v1_, hi.2.1, hi.2.2.1, hi.2.2.2.1, hi.2.2.2.2.1, hi.2.2.2.2.2.1, hi.2.2.2.2.2.2.1, hi.2.2.2.2.2.2.2.1, hi.2.2.2.2.2.2.2.2.1, hi.2.2.2.2.2.2.2.2.2.1]
    have q5_ : M2_.1 102 0 = M2_.1 124 40 := by simp only [c0v2_, c1v2_, c2v2_, c3v2_, c4v2_, c5v2_, c6v2_, c7v2_, c8v2_, c9v2_, c10v2_, c11v2_, c12v2_, c13v2_, c14v2_, c15v2_, c16v2_, c17v2_, c0v1_, c1v1_, c2v1_, c3v1_, c4v1_, c5v1_, c6v1_, c7v1_, c8v1_, c9v1_, c10v1_, c11v1_, c12v1_, c13v1_, c14v1_, c15v1_, c16v1_, c17v1_, hi.2.1, hi.2.2.1, hi.2.2.2.1, hi.2.2.2.2.1, hi.2.2.2.2.2.1, hi.2.2.2.2.2.2.1, hi.2.2.2.2.2.2.2.1, hi.2.2.2.2.2.2.2.2.1, hi.2.2.2.2.2.2.2.2.2.1]
    have q6_ : M2_.1 103 0 = M2_.1 124 56 := by simp only [c0v2_, c1v2_, c2v2_, c3v2_, c4v2_, c5v2_, c6v2_, c7v2_, c8v2_, c9v2_, c10v2_, c11v2_, c12v2_, c13v2_, c14v2_, c15v2_, c16v2_, c17v2_, c0v1_, c1v1_, c2v1_, c3v1_, c4v1_, c5v1_, c6v1_, c7v1_, c8v1_, c9v1_, c10v1_, c11v1_, c12v1_, c13v1_, c14v1_, c15v1_, c16v1_, c17v1_, hi.2.1, hi.2.2.1, hi.2.2.2.1, hi.2.2.2.2.1, hi.2.2.2.2.2.1, hi.2.2.2.2.2.2.1, hi.2.2.2.2.2.2.2.1, hi.2.2.2.2.2.2.2.2.1, hi.2.2.2.2.2.2.2.2.2.1]
    have q7_ : M2_.1 104 0 = M2_.1 124 43 := by simp only [c0v2_, c1v2_, c2v2_, c3v2_, c4v2_, c5v2_, c6v2_, c7v2_, c8v2_, c9v2_, c10v2_, c11v2_, c12v2_, c13v2_, c14v2_, c15v2_, c16v2_, c17v2_, c0v1_, c1v1_, c2v1_, c3v1_, c4v1_, c5v1_, c6v1_, c7v1_, c8v1_, c9v1_, c10v1_, c11v1_, c12v1_, c13v1_, c14v1_, c15v1_, c16v1_, c17v1_, hi.2.1, hi.2.2.1, hi.2.2.2.1, hi.2.2.2.2.1, hi.2.2.2.2.2.1, hi.2.2.2.2.2.2.1, hi.2.2.2.2.2.2.2.1, hi.2.2.2.2.2.2.2.2.1, hi.2.2.2.2.2.2.2.2.2.1]
    have q8_ : M2_.1 105 0 = M2_.1 124 57 := by simp only [c0v2_, c1v2_, c2v2_, c3v2_, c4v2_, c5v2_, c6v2_, c7v2_, c8v2_, c9v2_, c10v2_, c11v2_, c12v2_, c13v2_, c14v2_, c15v2_, c16v2_, c17v2_, c0v1_, c1v1_, c2v1_, c3v1_, c4v1_, c5v1_, c6v1_, c7v1_, c8v1_, c9v1_, c10v1_, c11v1_, c12v1_, c13v1_, c14v1_, c15v1_, c16v1_, c17v1_, hi.2.1, hi.2.2.1, hi.2.2.2.1, hi.2.2.2.2.1, hi.2.2.2.2.2.1, hi.2.2.2.2.2.2.1, hi.2.2.2.2.2.2.2.1, hi.2.2.2.2.2.2.2.2.1, hi.2.2.2.2.2.2.2.2.2.1]
    exact ⟨q0_, q1_, q2_, q3_, q4_, q5_, q6_, q7_, q8_, zP1_k hi.2.2.2.2.2.2.2.2.2.2.1 (c0v2_.trans c0v1_) (zKc_t K1v1_ K1v2_) (zKm_t K3v1_ K3v2_), zP2_k hi.2.2.2.2.2.2.2.2.2.2.2.1 (c2v2_.trans c2v1_) (zKc_t K2v1_ K2v2_) (zKm_t K4v1_ K4v2_), zPT_k hi.2.2.2.2.2.2.2.2.2.2.2.2.1 T9v1_ T10v1_ T9v2_ T10v2_, zRr_k hi.2.2.2.2.2.2.2.2.2.2.2.2.2.1 (c8v2_.trans c8v1_) G1v1_ G3v1_ G1v2_ G3v2_, zRr_k hi.2.2.2.2.2.2.2.2.2.2.2.2.2.2.1 (c6v2_.trans c6v1_) G2v1_ G4v1_ G2v2_ G4v2_, zPH_k hi.2.2.2.2.2.2.2.2.2.2.2.2.2.2.2.1 A9v1_ A0v1_ A9v2_ A0v2_, zVe_k hi.2.2.2.2.2.2.2.2.2.2.2.2.2.2.2.2.1 (c0v2_.trans c0v1_) VSv1_ WSv1_ VSv2_ WSv2_, zVe_k hi.2.2.2.2.2.2.2.2.2.2.2.2.2.2.2.2.2.1 (c2v2_.trans c2v1_) VKv1_ WKv1_ VKv2_ WKv2_, zHW_d hi.1.1 hi.2.2.2.2.2.2.2.2.2.2.2.2.2.2.2.2.2.2 HBv1_ HDv1_ HBv2_ HDv2_⟩
  refine zr_pop C dL_law_1065 rfl ?_
  refine zr_goto (tgt := 1337) C dL_law_1066 (by decide) ?_
  exact kk M2_ ⟨iv2_, rv2_⟩
set_option maxRecDepth 10000 in
theorem zl_case_33 (htab : pvTab) {p : Program} {l : Launch} {e : Env} {s : State} {m : MethodId} {below : List Frame} {meth : Method} {c : Code} {b L : Nat} {xs : Nat → Int32} {D : va_G} {y : Nat → ClassId} {ad : Nat → Nat} {ls : Array Slot} {i : Int32} {Q : State → Prop} {M : pvM} (C : zLc p s m c b L xs D y ad ls i) (hi : zIR M) (kk : ∀ M1, zIR M1 → zLW p l e s m below meth c b D y ad ls Q 1337 [] M1) : zLW p l e s m below meth c b D y ad ls Q 1069 [] M := by
  refine zr_x C dL_law_1069 ?_
  refine zr_arg 1 C dL_law_1070 dL_law_1071 dL_law_1072 dL_law_1073 dL_law_1074 (by decide) (by decide) ?_
  refine zr_arg 2 C dL_law_1075 dL_law_1076 dL_law_1077 dL_law_1078 dL_law_1079 (by decide) (by decide) ?_
  refine zr_call htab (j := 203) (n := 2) (q := 0) (as := [pvI (xs (i + 1).toNatClampNeg), pvI (xs (i + 2).toNatClampNeg)]) (rest := []) C rfl rfl rfl rfl (lw_X9_taken M hi.1 (xs (i + 1).toNatClampNeg) (xs (i + 2).toNatClampNeg)) (zgV zm_1203 zm_1204 zm_1205 zm_2 zm_1206) (by decide +kernel) rfl rfl rfl dL_law_1080 rfl rfl (fun r M1_ h1_ => ?_)
  obtain ⟨⟨v1_, rfl, ev1_⟩, iv1_, c0v1_, c1v1_, c2v1_, c3v1_, c4v1_, c5v1_, c6v1_, c7v1_, c8v1_, c9v1_, c10v1_, c11v1_, c12v1_, c13v1_, c14v1_, c15v1_, c16v1_, c17v1_, K1v1_, K2v1_, K3v1_, K4v1_, T9v1_, T10v1_, G1v1_, G2v1_, G3v1_, G4v1_, A9v1_, A0v1_, VSv1_, VKv1_, WSv1_, WKv1_, HBv1_, HDv1_⟩ := h1_
  refine zr_pop C dL_law_1083 rfl ?_
  refine zr_m C dL_law_1084 ?_
  refine zr_arg 1 C dL_law_1085 dL_law_1086 dL_law_1087 dL_law_1088 dL_law_1089 (by decide) (by decide) ?_
  refine zr_arg 2 C dL_law_1090 dL_law_1091 dL_law_1092 dL_law_1093 dL_law_1094 (by decide) (by decide) ?_
  refine zr_call htab (j := 81) (n := 2) (q := 124) (as := [pvI (xs (i + 1).toNatClampNeg), pvI (xs (i + 2).toNatClampNeg)]) (rest := []) C rfl rfl rfl rfl (lw_X10_taken M1_ iv1_ (xs (i + 1).toNatClampNeg) (xs (i + 2).toNatClampNeg)) (zgV zm_1211 zm_1212 zm_1213 zm_5 zm_1214) (by decide +kernel) rfl rfl rfl dL_law_1095 rfl rfl (fun r M2_ h2_ => ?_)
  obtain ⟨⟨v2_, rfl, ev2_⟩, iv2_, c0v2_, c1v2_, c2v2_, c3v2_, c4v2_, c5v2_, c6v2_, c7v2_, c8v2_, c9v2_, c10v2_, c11v2_, c12v2_, c13v2_, c14v2_, c15v2_, c16v2_, c17v2_, K1v2_, K2v2_, K3v2_, K4v2_, T9v2_, T10v2_, G1v2_, G2v2_, G3v2_, G4v2_, A9v2_, A0v2_, VSv2_, VKv2_, WSv2_, WKv2_, HBv2_, HDv2_⟩ := h2_
  have rv2_ : zRl M2_ := by
    have q0_ : M2_.1 8 1 = M2_.1 124 0 := by simp only [c0v2_, c1v2_, c2v2_, c3v2_, c4v2_, c5v2_, c6v2_, c7v2_, c8v2_, c9v2_, c10v2_, c11v2_, c12v2_, c13v2_, c14v2_, c15v2_, c16v2_, c17v2_, c0v1_, c1v1_, c2v1_, c3v1_, c4v1_, c5v1_, c6v1_, c7v1_, c8v1_, c9v1_, c10v1_, c11v1_, c12v1_, c13v1_, c14v1_, c15v1_, c16v1_, c17v1_, hi.2.1, hi.2.2.1, hi.2.2.2.1, hi.2.2.2.2.1, hi.2.2.2.2.2.1, hi.2.2.2.2.2.2.1, hi.2.2.2.2.2.2.2.1, hi.2.2.2.2.2.2.2.2.1, hi.2.2.2.2.2.2.2.2.2.1]
    have q1_ : M2_.1 9 1 = M2_.1 124 48 := by simp only [c0v2_, c1v2_, c2v2_, c3v2_, c4v2_, c5v2_, c6v2_, c7v2_, c8v2_, c9v2_, c10v2_, c11v2_, c12v2_, c13v2_, c14v2_, c15v2_, c16v2_, c17v2_, c0v1_, c1v1_, c2v1_, c3v1_, c4v1_, c5v1_, c6v1_, c7v1_, c8v1_, c9v1_, c10v1_, c11v1_, c12v1_, c13v1_, c14v1_, c15v1_, c16v1_, c17v1_, hi.2.1, hi.2.2.1, hi.2.2.2.1, hi.2.2.2.2.1, hi.2.2.2.2.2.1, hi.2.2.2.2.2.2.1, hi.2.2.2.2.2.2.2.1, hi.2.2.2.2.2.2.2.2.1, hi.2.2.2.2.2.2.2.2.2.1]
    have q2_ : M2_.1 0 5 = M2_.1 124 46 := by simp only [c0v2_, c1v2_, c2v2_, c3v2_, c4v2_, c5v2_, c6v2_, c7v2_, c8v2_, c9v2_, c10v2_, c11v2_, c12v2_, c13v2_, c14v2_, c15v2_, c16v2_, c17v2_, c0v1_, c1v1_, c2v1_, c3v1_, c4v1_, c5v1_, c6v1_, c7v1_, c8v1_, c9v1_, c10v1_, c11v1_, c12v1_, c13v1_, c14v1_, c15v1_, c16v1_, c17v1_, hi.2.1, hi.2.2.1, hi.2.2.2.1, hi.2.2.2.2.1, hi.2.2.2.2.2.1, hi.2.2.2.2.2.2.1, hi.2.2.2.2.2.2.2.1, hi.2.2.2.2.2.2.2.2.1, hi.2.2.2.2.2.2.2.2.2.1]
    have q3_ : M2_.1 101 0 = M2_.1 124 55 := by simp only [c0v2_, c1v2_, c2v2_, c3v2_, c4v2_, c5v2_, c6v2_, c7v2_, c8v2_, c9v2_, c10v2_, c11v2_, c12v2_, c13v2_, c14v2_, c15v2_, c16v2_, c17v2_, c0v1_, c1v1_, c2v1_, c3v1_, c4v1_, c5v1_, c6v1_, c7v1_, c8v1_, c9v1_, c10v1_, c11v1_, c12v1_, c13v1_, c14v1_, c15v1_, c16v1_, c17v1_, hi.2.1, hi.2.2.1, hi.2.2.2.1, hi.2.2.2.2.1, hi.2.2.2.2.2.1, hi.2.2.2.2.2.2.1, hi.2.2.2.2.2.2.2.1, hi.2.2.2.2.2.2.2.2.1, hi.2.2.2.2.2.2.2.2.2.1]
    have q4_ : M2_.1 100 0 = M2_.1 124 37 := by simp only [c0v2_, c1v2_, c2v2_, c3v2_, c4v2_, c5v2_, c6v2_, c7v2_, c8v2_, c9v2_, c10v2_, c11v2_, c12v2_, c13v2_, c14v2_, c15v2_, c16v2_, c17v2_, c0v1_, c1v1_, c2v1_, c3v1_, c4v1_, c5v1_, c6v1_, c7v1_, c8v1_, c9v1_, c10v1_, c11v1_, c12v1_, c13v1_, c14v1_, c15v1_, c16v1_, c17v1_, hi.2.1, hi.2.2.1, hi.2.2.2.1, hi.2.2.2.2.1, hi.2.2.2.2.2.1, hi.2.2.2.2.2.2.1, hi.2.2.2.2.2.2.2.1, hi.2.2.2.2.2.2.2.2.1, hi.2.2.2.2.2.2.2.2.2.1]
    have q5_ : M2_.1 102 0 = M2_.1 124 40 := by simp only [c0v2_, c1v2_, c2v2_, c3v2_, c4v2_, c5v2_, c6v2_, c7v2_, c8v2_, c9v2_, c10v2_, c11v2_, c12v2_, c13v2_, c14v2_, c15v2_, c16v2_, c17v2_, c0v1_, c1v1_, c2v1_, c3v1_, c4v1_, c5v1_, c6v1_, c7v1_, c8v1_, c9v1_, c10v1_, c11v1_, c12v1_, c13v1_, c14v1_, c15v1_, c16v1_, c17v1_, hi.2.1, hi.2.2.1, hi.2.2.2.1, hi.2.2.2.2.1, hi.2.2.2.2.2.1, hi.2.2.2.2.2.2.1, hi.2.2.2.2.2.2.2.1, hi.2.2.2.2.2.2.2.2.1, hi.2.2.2.2.2.2.2.2.2.1]
    have q6_ : M2_.1 103 0 = M2_.1 124 56 := by simp only [c0v2_, c1v2_, c2v2_, c3v2_, c4v2_, c5v2_, c6v2_, c7v2_, c8v2_, c9v2_, c10v2_, c11v2_, c12v2_, c13v2_, c14v2_, c15v2_, c16v2_, c17v2_, c0v1_, c1v1_, c2v1_, c3v1_, c4v1_, c5v1_, c6v1_, c7v1_, c8v1_, c9v1_, c10v1_, c11v1_, c12v1_, c13v1_, c14v1_, c15v1_, c16v1_, c17v1_, hi.2.1, hi.2.2.1, hi.2.2.2.1, hi.2.2.2.2.1, hi.2.2.2.2.2.1, hi.2.2.2.2.2.2.1, hi.2.2.2.2.2.2.2.1, hi.2.2.2.2.2.2.2.2.1, hi.2.2.2.2.2.2.2.2.2.1]
    have q7_ : M2_.1 104 0 = M2_.1 124 43 := by simp only [c0v2_, c1v2_, c2v2_, c3v2_, c4v2_, c5v2_, c6v2_, c7v2_, c8v2_, c9v2_, c10v2_, c11v2_, c12v2_, c13v2_, c14v2_, c15v2_, c16v2_, c17v2_, c0v1_, c1v1_, c2v1_, c3v1_, c4v1_, c5v1_, c6v1_, c7v1_, c8v1_, c9v1_, c10v1_, c11v1_, c12v1_, c13v1_, c14v1_, c15v1_, c16v1_, c17v1_, hi.2.1, hi.2.2.1, hi.2.2.2.1, hi.2.2.2.2.1, hi.2.2.2.2.2.1, hi.2.2.2.2.2.2.1, hi.2.2.2.2.2.2.2.1, hi.2.2.2.2.2.2.2.2.1, hi.2.2.2.2.2.2.2.2.2.1]
    have q8_ : M2_.1 105 0 = M2_.1 124 57 := by simp only [c0v2_, c1v2_, c2v2_, c3v2_, c4v2_, c5v2_, c6v2_, c7v2_, c8v2_, c9v2_, c10v2_, c11v2_, c12v2_, c13v2_, c14v2_, c15v2_, c16v2_, c17v2_, c0v1_, c1v1_, c2v1_, c3v1_, c4v1_, c5v1_, c6v1_, c7v1_, c8v1_, c9v1_, c10v1_, c11v1_, c12v1_, c13v1_, c14v1_, c15v1_, c16v1_, c17v1_, hi.2.1, hi.2.2.1, hi.2.2.2.1, hi.2.2.2.2.1, hi.2.2.2.2.2.1, hi.2.2.2.2.2.2.1, hi.2.2.2.2.2.2.2.1, hi.2.2.2.2.2.2.2.2.1, hi.2.2.2.2.2.2.2.2.2.1]
    exact ⟨q0_, q1_, q2_, q3_, q4_, q5_, q6_, q7_, q8_, zP1_k hi.2.2.2.2.2.2.2.2.2.2.1 (c0v2_.trans c0v1_) (zKc_t K1v1_ K1v2_) (zKm_t K3v1_ K3v2_), zP2_k hi.2.2.2.2.2.2.2.2.2.2.2.1 (c2v2_.trans c2v1_) (zKc_t K2v1_ K2v2_) (zKm_t K4v1_ K4v2_), zPT_k hi.2.2.2.2.2.2.2.2.2.2.2.2.1 T9v1_ T10v1_ T9v2_ T10v2_, zRr_k hi.2.2.2.2.2.2.2.2.2.2.2.2.2.1 (c8v2_.trans c8v1_) G1v1_ G3v1_ G1v2_ G3v2_, zRr_k hi.2.2.2.2.2.2.2.2.2.2.2.2.2.2.1 (c6v2_.trans c6v1_) G2v1_ G4v1_ G2v2_ G4v2_, zPH_k hi.2.2.2.2.2.2.2.2.2.2.2.2.2.2.2.1 A9v1_ A0v1_ A9v2_ A0v2_, zVe_k hi.2.2.2.2.2.2.2.2.2.2.2.2.2.2.2.2.1 (c0v2_.trans c0v1_) VSv1_ WSv1_ VSv2_ WSv2_, zVe_k hi.2.2.2.2.2.2.2.2.2.2.2.2.2.2.2.2.2.1 (c2v2_.trans c2v1_) VKv1_ WKv1_ VKv2_ WKv2_, zHW_d hi.1.1 hi.2.2.2.2.2.2.2.2.2.2.2.2.2.2.2.2.2.2 HBv1_ HDv1_ HBv2_ HDv2_⟩
  refine zr_pop C dL_law_1098 rfl ?_
  refine zr_goto (tgt := 1337) C dL_law_1099 (by decide) ?_
  exact kk M2_ ⟨iv2_, rv2_⟩
set_option maxRecDepth 10000 in
theorem zl_case_34 (htab : pvTab) {p : Program} {l : Launch} {e : Env} {s : State} {m : MethodId} {below : List Frame} {meth : Method} {c : Code} {b L : Nat} {xs : Nat → Int32} {D : va_G} {y : Nat → ClassId} {ad : Nat → Nat} {ls : Array Slot} {i : Int32} {Q : State → Prop} {M : pvM} (C : zLc p s m c b L xs D y ad ls i) (hi : zIR M) (kk : ∀ M1, zIR M1 → zLW p l e s m below meth c b D y ad ls Q 1337 [] M1) : zLW p l e s m below meth c b D y ad ls Q 1102 [] M := by
  refine zr_x C dL_law_1102 ?_
  refine zr_arg 1 C dL_law_1103 dL_law_1104 dL_law_1105 dL_law_1106 dL_law_1107 (by decide) (by decide) ?_
  refine zr_call htab (j := 172) (n := 1) (q := 0) (as := [pvI (xs (i + 1).toNatClampNeg)]) (rest := []) C rfl rfl rfl rfl (lw_X9_count M hi.1 (xs (i + 1).toNatClampNeg)) (zgV zm_1215 zm_1216 zm_1217 zm_2 zm_1218) (by decide +kernel) rfl rfl rfl dL_law_1108 rfl rfl (fun r M1_ h1_ => ?_)
  obtain ⟨⟨v1_, rfl, ev1_⟩, iv1_, c0v1_, c1v1_, c2v1_, c3v1_, c4v1_, c5v1_, c6v1_, c7v1_, c8v1_, c9v1_, c10v1_, c11v1_, c12v1_, c13v1_, c14v1_, c15v1_, c16v1_, c17v1_, K1v1_, K2v1_, K3v1_, K4v1_, T9v1_, T10v1_, G1v1_, G2v1_, G3v1_, G4v1_, A9v1_, A0v1_, VSv1_, VKv1_, WSv1_, WKv1_, HBv1_, HDv1_⟩ := h1_
  refine zr_pop C dL_law_1111 rfl ?_
  refine zr_m C dL_law_1112 ?_
  refine zr_arg 1 C dL_law_1113 dL_law_1114 dL_law_1115 dL_law_1116 dL_law_1117 (by decide) (by decide) ?_
  refine zr_call htab (j := 16) (n := 1) (q := 124) (as := [pvI (xs (i + 1).toNatClampNeg)]) (rest := []) C rfl rfl rfl rfl (lw_X10_count M1_ iv1_ (xs (i + 1).toNatClampNeg)) (zgV zm_1219 zm_1220 zm_1221 zm_5 zm_1222) (by decide +kernel) rfl rfl rfl dL_law_1118 rfl rfl (fun r M2_ h2_ => ?_)
  obtain ⟨⟨v2_, rfl, ev2_⟩, iv2_, c0v2_, c1v2_, c2v2_, c3v2_, c4v2_, c5v2_, c6v2_, c7v2_, c8v2_, c9v2_, c10v2_, c11v2_, c12v2_, c13v2_, c14v2_, c15v2_, c16v2_, c17v2_, K1v2_, K2v2_, K3v2_, K4v2_, T9v2_, T10v2_, G1v2_, G2v2_, G3v2_, G4v2_, A9v2_, A0v2_, VSv2_, VKv2_, WSv2_, WKv2_, HBv2_, HDv2_⟩ := h2_
  have rv2_ : zRl M2_ := by
    have q0_ : M2_.1 8 1 = M2_.1 124 0 := by simp only [c0v2_, c1v2_, c2v2_, c3v2_, c4v2_, c5v2_, c6v2_, c7v2_, c8v2_, c9v2_, c10v2_, c11v2_, c12v2_, c13v2_, c14v2_, c15v2_, c16v2_, c17v2_, c0v1_, c1v1_, c2v1_, c3v1_, c4v1_, c5v1_, c6v1_, c7v1_, c8v1_, c9v1_, c10v1_, c11v1_, c12v1_, c13v1_, c14v1_, c15v1_, c16v1_, c17v1_, hi.2.1, hi.2.2.1, hi.2.2.2.1, hi.2.2.2.2.1, hi.2.2.2.2.2.1, hi.2.2.2.2.2.2.1, hi.2.2.2.2.2.2.2.1, hi.2.2.2.2.2.2.2.2.1, hi.2.2.2.2.2.2.2.2.2.1]
    have q1_ : M2_.1 9 1 = M2_.1 124 48 := by simp only [c0v2_, c1v2_, c2v2_, c3v2_, c4v2_, c5v2_, c6v2_, c7v2_, c8v2_, c9v2_, c10v2_, c11v2_, c12v2_, c13v2_, c14v2_, c15v2_, c16v2_, c17v2_, c0v1_, c1v1_, c2v1_, c3v1_, c4v1_, c5v1_, c6v1_, c7v1_, c8v1_, c9v1_, c10v1_, c11v1_, c12v1_, c13v1_, c14v1_, c15v1_, c16v1_, c17v1_, hi.2.1, hi.2.2.1, hi.2.2.2.1, hi.2.2.2.2.1, hi.2.2.2.2.2.1, hi.2.2.2.2.2.2.1, hi.2.2.2.2.2.2.2.1, hi.2.2.2.2.2.2.2.2.1, hi.2.2.2.2.2.2.2.2.2.1]
    have q2_ : M2_.1 0 5 = M2_.1 124 46 := by simp only [c0v2_, c1v2_, c2v2_, c3v2_, c4v2_, c5v2_, c6v2_, c7v2_, c8v2_, c9v2_, c10v2_, c11v2_, c12v2_, c13v2_, c14v2_, c15v2_, c16v2_, c17v2_, c0v1_, c1v1_, c2v1_, c3v1_, c4v1_, c5v1_, c6v1_, c7v1_, c8v1_, c9v1_, c10v1_, c11v1_, c12v1_, c13v1_, c14v1_, c15v1_, c16v1_, c17v1_, hi.2.1, hi.2.2.1, hi.2.2.2.1, hi.2.2.2.2.1, hi.2.2.2.2.2.1, hi.2.2.2.2.2.2.1, hi.2.2.2.2.2.2.2.1, hi.2.2.2.2.2.2.2.2.1, hi.2.2.2.2.2.2.2.2.2.1]
    have q3_ : M2_.1 101 0 = M2_.1 124 55 := by simp only [c0v2_, c1v2_, c2v2_, c3v2_, c4v2_, c5v2_, c6v2_, c7v2_, c8v2_, c9v2_, c10v2_, c11v2_, c12v2_, c13v2_, c14v2_, c15v2_, c16v2_, c17v2_, c0v1_, c1v1_, c2v1_, c3v1_, c4v1_, c5v1_, c6v1_, c7v1_, c8v1_, c9v1_, c10v1_, c11v1_, c12v1_, c13v1_, c14v1_, c15v1_, c16v1_, c17v1_, hi.2.1, hi.2.2.1, hi.2.2.2.1, hi.2.2.2.2.1, hi.2.2.2.2.2.1, hi.2.2.2.2.2.2.1, hi.2.2.2.2.2.2.2.1, hi.2.2.2.2.2.2.2.2.1, hi.2.2.2.2.2.2.2.2.2.1]
    have q4_ : M2_.1 100 0 = M2_.1 124 37 := by simp only [c0v2_, c1v2_, c2v2_, c3v2_, c4v2_, c5v2_, c6v2_, c7v2_, c8v2_, c9v2_, c10v2_, c11v2_, c12v2_, c13v2_, c14v2_, c15v2_, c16v2_, c17v2_, c0v1_, c1v1_, c2v1_, c3v1_, c4v1_, c5v1_, c6v1_, c7v1_, c8v1_, c9v1_, c10v1_, c11v1_, c12v1_, c13v1_, c14v1_, c15v1_, c16v1_, c17v1_, hi.2.1, hi.2.2.1, hi.2.2.2.1, hi.2.2.2.2.1, hi.2.2.2.2.2.1, hi.2.2.2.2.2.2.1, hi.2.2.2.2.2.2.2.1, hi.2.2.2.2.2.2.2.2.1, hi.2.2.2.2.2.2.2.2.2.1]
    have q5_ : M2_.1 102 0 = M2_.1 124 40 := by simp only [c0v2_, c1v2_, c2v2_, c3v2_, c4v2_, c5v2_, c6v2_, c7v2_, c8v2_, c9v2_, c10v2_, c11v2_, c12v2_, c13v2_, c14v2_, c15v2_, c16v2_, c17v2_, c0v1_, c1v1_, c2v1_, c3v1_, c4v1_, c5v1_, c6v1_, c7v1_, c8v1_, c9v1_, c10v1_, c11v1_, c12v1_, c13v1_, c14v1_, c15v1_, c16v1_, c17v1_, hi.2.1, hi.2.2.1, hi.2.2.2.1, hi.2.2.2.2.1, hi.2.2.2.2.2.1, hi.2.2.2.2.2.2.1, hi.2.2.2.2.2.2.2.1, hi.2.2.2.2.2.2.2.2.1, hi.2.2.2.2.2.2.2.2.2.1]
    have q6_ : M2_.1 103 0 = M2_.1 124 56 := by simp only [c0v2_, c1v2_, c2v2_, c3v2_, c4v2_, c5v2_, c6v2_, c7v2_, c8v2_, c9v2_, c10v2_, c11v2_, c12v2_, c13v2_, c14v2_, c15v2_, c16v2_, c17v2_, c0v1_, c1v1_, c2v1_, c3v1_, c4v1_, c5v1_, c6v1_, c7v1_, c8v1_, c9v1_, c10v1_, c11v1_, c12v1_, c13v1_, c14v1_, c15v1_, c16v1_, c17v1_, hi.2.1, hi.2.2.1, hi.2.2.2.1, hi.2.2.2.2.1, hi.2.2.2.2.2.1, hi.2.2.2.2.2.2.1, hi.2.2.2.2.2.2.2.1, hi.2.2.2.2.2.2.2.2.1, hi.2.2.2.2.2.2.2.2.2.1]
    have q7_ : M2_.1 104 0 = M2_.1 124 43 := by simp only [c0v2_, c1v2_, c2v2_, c3v2_, c4v2_, c5v2_, c6v2_, c7v2_, c8v2_, c9v2_, c10v2_, c11v2_, c12v2_, c13v2_, c14v2_, c15v2_, c16v2_, c17v2_, c0v1_, c1v1_, c2v1_, c3v1_, c4v1_, c5v1_, c6v1_, c7v1_, c8v1_, c9v1_, c10v1_, c11v1_, c12v1_, c13v1_, c14v1_, c15v1_, c16v1_, c17v1_, hi.2.1, hi.2.2.1, hi.2.2.2.1, hi.2.2.2.2.1, hi.2.2.2.2.2.1, hi.2.2.2.2.2.2.1, hi.2.2.2.2.2.2.2.1, hi.2.2.2.2.2.2.2.2.1, hi.2.2.2.2.2.2.2.2.2.1]
    have q8_ : M2_.1 105 0 = M2_.1 124 57 := by simp only [c0v2_, c1v2_, c2v2_, c3v2_, c4v2_, c5v2_, c6v2_, c7v2_, c8v2_, c9v2_, c10v2_, c11v2_, c12v2_, c13v2_, c14v2_, c15v2_, c16v2_, c17v2_, c0v1_, c1v1_, c2v1_, c3v1_, c4v1_, c5v1_, c6v1_, c7v1_, c8v1_, c9v1_, c10v1_, c11v1_, c12v1_, c13v1_, c14v1_, c15v1_, c16v1_, c17v1_, hi.2.1, hi.2.2.1, hi.2.2.2.1, hi.2.2.2.2.1, hi.2.2.2.2.2.1, hi.2.2.2.2.2.2.1, hi.2.2.2.2.2.2.2.1, hi.2.2.2.2.2.2.2.2.1, hi.2.2.2.2.2.2.2.2.2.1]
    exact ⟨q0_, q1_, q2_, q3_, q4_, q5_, q6_, q7_, q8_, zP1_k hi.2.2.2.2.2.2.2.2.2.2.1 (c0v2_.trans c0v1_) (zKc_t K1v1_ K1v2_) (zKm_t K3v1_ K3v2_), zP2_k hi.2.2.2.2.2.2.2.2.2.2.2.1 (c2v2_.trans c2v1_) (zKc_t K2v1_ K2v2_) (zKm_t K4v1_ K4v2_), zPT_k hi.2.2.2.2.2.2.2.2.2.2.2.2.1 T9v1_ T10v1_ T9v2_ T10v2_, zRr_k hi.2.2.2.2.2.2.2.2.2.2.2.2.2.1 (c8v2_.trans c8v1_) G1v1_ G3v1_ G1v2_ G3v2_, zRr_k hi.2.2.2.2.2.2.2.2.2.2.2.2.2.2.1 (c6v2_.trans c6v1_) G2v1_ G4v1_ G2v2_ G4v2_, zPH_k hi.2.2.2.2.2.2.2.2.2.2.2.2.2.2.2.1 A9v1_ A0v1_ A9v2_ A0v2_, zVe_k hi.2.2.2.2.2.2.2.2.2.2.2.2.2.2.2.2.1 (c0v2_.trans c0v1_) VSv1_ WSv1_ VSv2_ WSv2_, zVe_k hi.2.2.2.2.2.2.2.2.2.2.2.2.2.2.2.2.2.1 (c2v2_.trans c2v1_) VKv1_ WKv1_ VKv2_ WKv2_, zHW_d hi.1.1 hi.2.2.2.2.2.2.2.2.2.2.2.2.2.2.2.2.2.2 HBv1_ HDv1_ HBv2_ HDv2_⟩
  refine zr_pop C dL_law_1121 rfl ?_
  refine zr_goto (tgt := 1337) C dL_law_1122 (by decide) ?_
  exact kk M2_ ⟨iv2_, rv2_⟩
set_option maxRecDepth 10000 in
theorem zl_case_35 (htab : pvTab) {p : Program} {l : Launch} {e : Env} {s : State} {m : MethodId} {below : List Frame} {meth : Method} {c : Code} {b L : Nat} {xs : Nat → Int32} {D : va_G} {y : Nat → ClassId} {ad : Nat → Nat} {ls : Array Slot} {i : Int32} {Q : State → Prop} {M : pvM} (C : zLc p s m c b L xs D y ad ls i) (hi : zIR M) (kk : ∀ M1, zIR M1 → zLW p l e s m below meth c b D y ad ls Q 1337 [] M1) : zLW p l e s m below meth c b D y ad ls Q 1125 [] M := by
  refine zr_x C dL_law_1125 ?_
  refine zr_arg 1 C dL_law_1126 dL_law_1127 dL_law_1128 dL_law_1129 dL_law_1130 (by decide) (by decide) ?_
  refine zr_arg 2 C dL_law_1131 dL_law_1132 dL_law_1133 dL_law_1134 dL_law_1135 (by decide) (by decide) ?_
  refine zr_arg 3 C dL_law_1136 dL_law_1137 dL_law_1138 dL_law_1139 dL_law_1140 (by decide) (by decide) ?_
  refine zr_call htab (j := 204) (n := 3) (q := 0) (as := [pvI (xs (i + 1).toNatClampNeg), pvI (xs (i + 2).toNatClampNeg), pvI (xs (i + 3).toNatClampNeg)]) (rest := []) C rfl rfl rfl rfl (lw_X9_tape M hi.1 (xs (i + 1).toNatClampNeg) (xs (i + 2).toNatClampNeg) (xs (i + 3).toNatClampNeg)) (zgV zm_1223 zm_1224 zm_1225 zm_2 zm_1226) (by decide +kernel) rfl rfl rfl dL_law_1141 rfl rfl (fun r M1_ h1_ => ?_)
  obtain ⟨⟨v1_, rfl, ev1_⟩, iv1_, c0v1_, c1v1_, c2v1_, c3v1_, c4v1_, c5v1_, c6v1_, c7v1_, c8v1_, c9v1_, c10v1_, c11v1_, c12v1_, c13v1_, c14v1_, c15v1_, c16v1_, c17v1_, K1v1_, K2v1_, K3v1_, K4v1_, T9v1_, T10v1_, G1v1_, G2v1_, G3v1_, G4v1_, A9v1_, A0v1_, VSv1_, VKv1_, WSv1_, WKv1_, HBv1_, HDv1_⟩ := h1_
  refine zr_pop C dL_law_1144 rfl ?_
  refine zr_m C dL_law_1145 ?_
  refine zr_arg 1 C dL_law_1146 dL_law_1147 dL_law_1148 dL_law_1149 dL_law_1150 (by decide) (by decide) ?_
  refine zr_arg 2 C dL_law_1151 dL_law_1152 dL_law_1153 dL_law_1154 dL_law_1155 (by decide) (by decide) ?_
  refine zr_arg 3 C dL_law_1156 dL_law_1157 dL_law_1158 dL_law_1159 dL_law_1160 (by decide) (by decide) ?_
  refine zr_call htab (j := 89) (n := 3) (q := 124) (as := [pvI (xs (i + 1).toNatClampNeg), pvI (xs (i + 2).toNatClampNeg), pvI (xs (i + 3).toNatClampNeg)]) (rest := []) C rfl rfl rfl rfl (lw_X10_tape M1_ iv1_ (xs (i + 1).toNatClampNeg) (xs (i + 2).toNatClampNeg) (xs (i + 3).toNatClampNeg)) (zgV zm_1233 zm_1234 zm_1235 zm_5 zm_1236) (by decide +kernel) rfl rfl rfl dL_law_1161 rfl rfl (fun r M2_ h2_ => ?_)
  obtain ⟨⟨v2_, rfl, ev2_⟩, iv2_, c0v2_, c1v2_, c2v2_, c3v2_, c4v2_, c5v2_, c6v2_, c7v2_, c8v2_, c9v2_, c10v2_, c11v2_, c12v2_, c13v2_, c14v2_, c15v2_, c16v2_, c17v2_, K1v2_, K2v2_, K3v2_, K4v2_, T9v2_, T10v2_, G1v2_, G2v2_, G3v2_, G4v2_, A9v2_, A0v2_, VSv2_, VKv2_, WSv2_, WKv2_, HBv2_, HDv2_⟩ := h2_
  have rv2_ : zRl M2_ := by
    have q0_ : M2_.1 8 1 = M2_.1 124 0 := by simp only [c0v2_, c1v2_, c2v2_, c3v2_, c4v2_, c5v2_, c6v2_, c7v2_, c8v2_, c9v2_, c10v2_, c11v2_, c12v2_, c13v2_, c14v2_, c15v2_, c16v2_, c17v2_, c0v1_, c1v1_, c2v1_, c3v1_, c4v1_, c5v1_, c6v1_, c7v1_, c8v1_, c9v1_, c10v1_, c11v1_, c12v1_, c13v1_, c14v1_, c15v1_, c16v1_, c17v1_, hi.2.1, hi.2.2.1, hi.2.2.2.1, hi.2.2.2.2.1, hi.2.2.2.2.2.1, hi.2.2.2.2.2.2.1, hi.2.2.2.2.2.2.2.1, hi.2.2.2.2.2.2.2.2.1, hi.2.2.2.2.2.2.2.2.2.1]
    have q1_ : M2_.1 9 1 = M2_.1 124 48 := by simp only [c0v2_, c1v2_, c2v2_, c3v2_, c4v2_, c5v2_, c6v2_, c7v2_, c8v2_, c9v2_, c10v2_, c11v2_, c12v2_, c13v2_, c14v2_, c15v2_, c16v2_, c17v2_, c0v1_, c1v1_, c2v1_, c3v1_, c4v1_, c5v1_, c6v1_, c7v1_, c8v1_, c9v1_, c10v1_, c11v1_, c12v1_, c13v1_, c14v1_, c15v1_, c16v1_, c17v1_, hi.2.1, hi.2.2.1, hi.2.2.2.1, hi.2.2.2.2.1, hi.2.2.2.2.2.1, hi.2.2.2.2.2.2.1, hi.2.2.2.2.2.2.2.1, hi.2.2.2.2.2.2.2.2.1, hi.2.2.2.2.2.2.2.2.2.1]
    have q2_ : M2_.1 0 5 = M2_.1 124 46 := by simp only [c0v2_, c1v2_, c2v2_, c3v2_, c4v2_, c5v2_, c6v2_, c7v2_, c8v2_, c9v2_, c10v2_, c11v2_, c12v2_, c13v2_, c14v2_, c15v2_, c16v2_, c17v2_, c0v1_, c1v1_, c2v1_, c3v1_, c4v1_, c5v1_, c6v1_, c7v1_, c8v1_, c9v1_, c10v1_, c11v1_, c12v1_, c13v1_, c14v1_, c15v1_, c16v1_, c17v1_, hi.2.1, hi.2.2.1, hi.2.2.2.1, hi.2.2.2.2.1, hi.2.2.2.2.2.1, hi.2.2.2.2.2.2.1, hi.2.2.2.2.2.2.2.1, hi.2.2.2.2.2.2.2.2.1, hi.2.2.2.2.2.2.2.2.2.1]
    have q3_ : M2_.1 101 0 = M2_.1 124 55 := by simp only [c0v2_, c1v2_, c2v2_, c3v2_, c4v2_, c5v2_, c6v2_, c7v2_, c8v2_, c9v2_, c10v2_, c11v2_, c12v2_, c13v2_, c14v2_, c15v2_, c16v2_, c17v2_, c0v1_, c1v1_, c2v1_, c3v1_, c4v1_, c5v1_, c6v1_, c7v1_, c8v1_, c9v1_, c10v1_, c11v1_, c12v1_, c13v1_, c14v1_, c15v1_, c16v1_, c17v1_, hi.2.1, hi.2.2.1, hi.2.2.2.1, hi.2.2.2.2.1, hi.2.2.2.2.2.1, hi.2.2.2.2.2.2.1, hi.2.2.2.2.2.2.2.1, hi.2.2.2.2.2.2.2.2.1, hi.2.2.2.2.2.2.2.2.2.1]
    have q4_ : M2_.1 100 0 = M2_.1 124 37 := by simp only [c0v2_, c1v2_, c2v2_, c3v2_, c4v2_, c5v2_, c6v2_, c7v2_, c8v2_, c9v2_, c10v2_, c11v2_, c12v2_, c13v2_, c14v2_, c15v2_, c16v2_, c17v2_, c0v1_, c1v1_, c2v1_, c3v1_, c4v1_, c5v1_, c6v1_, c7v1_, c8v1_, c9v1_, c10v1_, c11v1_, c12v1_, c13v1_, c14v1_, c15v1_, c16v1_, c17v1_, hi.2.1, hi.2.2.1, hi.2.2.2.1, hi.2.2.2.2.1, hi.2.2.2.2.2.1, hi.2.2.2.2.2.2.1, hi.2.2.2.2.2.2.2.1, hi.2.2.2.2.2.2.2.2.1, hi.2.2.2.2.2.2.2.2.2.1]
    have q5_ : M2_.1 102 0 = M2_.1 124 40 := by simp only [c0v2_, c1v2_, c2v2_, c3v2_, c4v2_, c5v2_, c6v2_, c7v2_, c8v2_, c9v2_, c10v2_, c11v2_, c12v2_, c13v2_, c14v2_, c15v2_, c16v2_, c17v2_, c0v1_, c1v1_, c2v1_, c3v1_, c4v1_, c5v1_, c6v1_, c7v1_, c8v1_, c9v1_, c10v1_, c11v1_, c12v1_, c13v1_, c14v1_, c15v1_, c16v1_, c17v1_, hi.2.1, hi.2.2.1, hi.2.2.2.1, hi.2.2.2.2.1, hi.2.2.2.2.2.1, hi.2.2.2.2.2.2.1, hi.2.2.2.2.2.2.2.1, hi.2.2.2.2.2.2.2.2.1, hi.2.2.2.2.2.2.2.2.2.1]
    have q6_ : M2_.1 103 0 = M2_.1 124 56 := by simp only [c0v2_, c1v2_, c2v2_, c3v2_, c4v2_, c5v2_, c6v2_, c7v2_, c8v2_, c9v2_, c10v2_, c11v2_, c12v2_, c13v2_, c14v2_, c15v2_, c16v2_, c17v2_, c0v1_, c1v1_, c2v1_, c3v1_, c4v1_, c5v1_, c6v1_, c7v1_, c8v1_, c9v1_, c10v1_, c11v1_, c12v1_, c13v1_, c14v1_, c15v1_, c16v1_, c17v1_, hi.2.1, hi.2.2.1, hi.2.2.2.1, hi.2.2.2.2.1, hi.2.2.2.2.2.1, hi.2.2.2.2.2.2.1, hi.2.2.2.2.2.2.2.1, hi.2.2.2.2.2.2.2.2.1, hi.2.2.2.2.2.2.2.2.2.1]
    have q7_ : M2_.1 104 0 = M2_.1 124 43 := by simp only [c0v2_, c1v2_, c2v2_, c3v2_, c4v2_, c5v2_, c6v2_, c7v2_, c8v2_, c9v2_, c10v2_, c11v2_, c12v2_, c13v2_, c14v2_, c15v2_, c16v2_, c17v2_, c0v1_, c1v1_, c2v1_, c3v1_, c4v1_, c5v1_, c6v1_, c7v1_, c8v1_, c9v1_, c10v1_, c11v1_, c12v1_, c13v1_, c14v1_, c15v1_, c16v1_, c17v1_, hi.2.1, hi.2.2.1, hi.2.2.2.1, hi.2.2.2.2.1, hi.2.2.2.2.2.1, hi.2.2.2.2.2.2.1, hi.2.2.2.2.2.2.2.1, hi.2.2.2.2.2.2.2.2.1, hi.2.2.2.2.2.2.2.2.2.1]
    have q8_ : M2_.1 105 0 = M2_.1 124 57 := by simp only [c0v2_, c1v2_, c2v2_, c3v2_, c4v2_, c5v2_, c6v2_, c7v2_, c8v2_, c9v2_, c10v2_, c11v2_, c12v2_, c13v2_, c14v2_, c15v2_, c16v2_, c17v2_, c0v1_, c1v1_, c2v1_, c3v1_, c4v1_, c5v1_, c6v1_, c7v1_, c8v1_, c9v1_, c10v1_, c11v1_, c12v1_, c13v1_, c14v1_, c15v1_, c16v1_, c17v1_, hi.2.1, hi.2.2.1, hi.2.2.2.1, hi.2.2.2.2.1, hi.2.2.2.2.2.1, hi.2.2.2.2.2.2.1, hi.2.2.2.2.2.2.2.1, hi.2.2.2.2.2.2.2.2.1, hi.2.2.2.2.2.2.2.2.2.1]
    exact ⟨q0_, q1_, q2_, q3_, q4_, q5_, q6_, q7_, q8_, zP1_k hi.2.2.2.2.2.2.2.2.2.2.1 (c0v2_.trans c0v1_) (zKc_t K1v1_ K1v2_) (zKm_t K3v1_ K3v2_), zP2_k hi.2.2.2.2.2.2.2.2.2.2.2.1 (c2v2_.trans c2v1_) (zKc_t K2v1_ K2v2_) (zKm_t K4v1_ K4v2_), zPT_k hi.2.2.2.2.2.2.2.2.2.2.2.2.1 T9v1_ T10v1_ T9v2_ T10v2_, zRr_k hi.2.2.2.2.2.2.2.2.2.2.2.2.2.1 (c8v2_.trans c8v1_) G1v1_ G3v1_ G1v2_ G3v2_, zRr_k hi.2.2.2.2.2.2.2.2.2.2.2.2.2.2.1 (c6v2_.trans c6v1_) G2v1_ G4v1_ G2v2_ G4v2_, zPH_k hi.2.2.2.2.2.2.2.2.2.2.2.2.2.2.2.1 A9v1_ A0v1_ A9v2_ A0v2_, zVe_k hi.2.2.2.2.2.2.2.2.2.2.2.2.2.2.2.2.1 (c0v2_.trans c0v1_) VSv1_ WSv1_ VSv2_ WSv2_, zVe_k hi.2.2.2.2.2.2.2.2.2.2.2.2.2.2.2.2.2.1 (c2v2_.trans c2v1_) VKv1_ WKv1_ VKv2_ WKv2_, zHW_d hi.1.1 hi.2.2.2.2.2.2.2.2.2.2.2.2.2.2.2.2.2.2 HBv1_ HDv1_ HBv2_ HDv2_⟩
  refine zr_pop C dL_law_1164 rfl ?_
  refine zr_goto (tgt := 1337) C dL_law_1165 (by decide) ?_
  exact kk M2_ ⟨iv2_, rv2_⟩
set_option maxRecDepth 10000 in
theorem zl_case_36 (htab : pvTab) {p : Program} {l : Launch} {e : Env} {s : State} {m : MethodId} {below : List Frame} {meth : Method} {c : Code} {b L : Nat} {xs : Nat → Int32} {D : va_G} {y : Nat → ClassId} {ad : Nat → Nat} {ls : Array Slot} {i : Int32} {Q : State → Prop} {M : pvM} (C : zLc p s m c b L xs D y ad ls i) (hi : zIR M) (kk : ∀ M1, zIR M1 → zLW p l e s m below meth c b D y ad ls Q 1337 [] M1) : zLW p l e s m below meth c b D y ad ls Q 1168 [] M := by
  refine zr_x C dL_law_1168 ?_
  refine zr_arg 1 C dL_law_1169 dL_law_1170 dL_law_1171 dL_law_1172 dL_law_1173 (by decide) (by decide) ?_
  refine zr_arg 2 C dL_law_1174 dL_law_1175 dL_law_1176 dL_law_1177 dL_law_1178 (by decide) (by decide) ?_
  refine zr_arg 3 C dL_law_1179 dL_law_1180 dL_law_1181 dL_law_1182 dL_law_1183 (by decide) (by decide) ?_
  refine zr_i2l C dL_law_1184 ?_
  refine zr_bipush (v := 32) C dL_law_1185 (by decide) ?_
  refine zr_lshl C dL_law_1187 ?_
  refine zr_arg 4 C dL_law_1188 dL_law_1189 dL_law_1190 dL_law_1191 dL_law_1192 (by decide) (by decide) ?_
  refine zr_i2l C dL_law_1193 ?_
  refine zr_ldc2 (v := 4294967295) C zm_6 dL_law_1194 ?_
  refine zr_land C dL_law_1197 ?_
  refine zr_lor C dL_law_1198 ?_
  refine zr_call htab (j := 181) (n := 3) (q := 0) (as := [pvI (xs (i + 1).toNatClampNeg), pvI (xs (i + 2).toNatClampNeg), pvJ (((Int32.toInt64 (xs (i + 3).toNatClampNeg)) <<< (Int32.toInt64 32 &&& 63)) ||| ((Int32.toInt64 (xs (i + 4).toNatClampNeg)) &&& 4294967295))]) (rest := []) C rfl rfl rfl rfl (lw_X9_item M hi.1 (xs (i + 1).toNatClampNeg) (xs (i + 2).toNatClampNeg) (((Int32.toInt64 (xs (i + 3).toNatClampNeg)) <<< (Int32.toInt64 32 &&& 63)) ||| ((Int32.toInt64 (xs (i + 4).toNatClampNeg)) &&& 4294967295))) (zgV zm_1237 zm_1238 zm_1239 zm_2 zm_1240) (by decide +kernel) rfl rfl rfl dL_law_1199 rfl rfl (fun r M1_ h1_ => ?_)
  obtain ⟨⟨v1_, rfl⟩, iv1_, c0v1_, c1v1_, c2v1_, c3v1_, c4v1_, c5v1_, c6v1_, c7v1_, c8v1_, c9v1_, c10v1_, c11v1_, c12v1_, c13v1_, c14v1_, c15v1_, c16v1_, c17v1_, K1v1_, K2v1_, K3v1_, K4v1_, T9v1_, T10v1_, G1v1_, G2v1_, G3v1_, G4v1_, A9v1_, A0v1_, VSv1_, VKv1_, WSv1_, WKv1_, HBv1_, HDv1_⟩ := h1_
  refine zr_pop C dL_law_1202 rfl ?_
  refine zr_m C dL_law_1203 ?_
  refine zr_arg 1 C dL_law_1204 dL_law_1205 dL_law_1206 dL_law_1207 dL_law_1208 (by decide) (by decide) ?_
  refine zr_arg 2 C dL_law_1209 dL_law_1210 dL_law_1211 dL_law_1212 dL_law_1213 (by decide) (by decide) ?_
  refine zr_arg 3 C dL_law_1214 dL_law_1215 dL_law_1216 dL_law_1217 dL_law_1218 (by decide) (by decide) ?_
  refine zr_i2l C dL_law_1219 ?_
  refine zr_bipush (v := 32) C dL_law_1220 (by decide) ?_
  refine zr_lshl C dL_law_1222 ?_
  refine zr_arg 4 C dL_law_1223 dL_law_1224 dL_law_1225 dL_law_1226 dL_law_1227 (by decide) (by decide) ?_
  refine zr_i2l C dL_law_1228 ?_
  refine zr_ldc2 (v := 4294967295) C zm_6 dL_law_1229 ?_
  refine zr_land C dL_law_1232 ?_
  refine zr_lor C dL_law_1233 ?_
  refine zr_call htab (j := 43) (n := 3) (q := 124) (as := [pvI (xs (i + 1).toNatClampNeg), pvI (xs (i + 2).toNatClampNeg), pvJ (((Int32.toInt64 (xs (i + 3).toNatClampNeg)) <<< (Int32.toInt64 32 &&& 63)) ||| ((Int32.toInt64 (xs (i + 4).toNatClampNeg)) &&& 4294967295))]) (rest := []) C rfl rfl rfl rfl (lw_X10_item M1_ iv1_ (xs (i + 1).toNatClampNeg) (xs (i + 2).toNatClampNeg) (((Int32.toInt64 (xs (i + 3).toNatClampNeg)) <<< (Int32.toInt64 32 &&& 63)) ||| ((Int32.toInt64 (xs (i + 4).toNatClampNeg)) &&& 4294967295))) (zgV zm_1249 zm_1250 zm_1251 zm_5 zm_1252) (by decide +kernel) rfl rfl rfl dL_law_1234 rfl rfl (fun r M2_ h2_ => ?_)
  obtain ⟨⟨v2_, rfl⟩, iv2_, c0v2_, c1v2_, c2v2_, c3v2_, c4v2_, c5v2_, c6v2_, c7v2_, c8v2_, c9v2_, c10v2_, c11v2_, c12v2_, c13v2_, c14v2_, c15v2_, c16v2_, c17v2_, K1v2_, K2v2_, K3v2_, K4v2_, T9v2_, T10v2_, G1v2_, G2v2_, G3v2_, G4v2_, A9v2_, A0v2_, VSv2_, VKv2_, WSv2_, WKv2_, HBv2_, HDv2_⟩ := h2_
  have rv2_ : zRl M2_ := by
    have q0_ : M2_.1 8 1 = M2_.1 124 0 := by simp only [c0v2_, c1v2_, c2v2_, c3v2_, c4v2_, c5v2_, c6v2_, c7v2_, c8v2_, c9v2_, c10v2_, c11v2_, c12v2_, c13v2_, c14v2_, c15v2_, c16v2_, c17v2_, c0v1_, c1v1_, c2v1_, c3v1_, c4v1_, c5v1_, c6v1_, c7v1_, c8v1_, c9v1_, c10v1_, c11v1_, c12v1_, c13v1_, c14v1_, c15v1_, c16v1_, c17v1_, hi.2.1, hi.2.2.1, hi.2.2.2.1, hi.2.2.2.2.1, hi.2.2.2.2.2.1, hi.2.2.2.2.2.2.1, hi.2.2.2.2.2.2.2.1, hi.2.2.2.2.2.2.2.2.1, hi.2.2.2.2.2.2.2.2.2.1]
    have q1_ : M2_.1 9 1 = M2_.1 124 48 := by simp only [c0v2_, c1v2_, c2v2_, c3v2_, c4v2_, c5v2_, c6v2_, c7v2_, c8v2_, c9v2_, c10v2_, c11v2_, c12v2_, c13v2_, c14v2_, c15v2_, c16v2_, c17v2_, c0v1_, c1v1_, c2v1_, c3v1_, c4v1_, c5v1_, c6v1_, c7v1_, c8v1_, c9v1_, c10v1_, c11v1_, c12v1_, c13v1_, c14v1_, c15v1_, c16v1_, c17v1_, hi.2.1, hi.2.2.1, hi.2.2.2.1, hi.2.2.2.2.1, hi.2.2.2.2.2.1, hi.2.2.2.2.2.2.1, hi.2.2.2.2.2.2.2.1, hi.2.2.2.2.2.2.2.2.1, hi.2.2.2.2.2.2.2.2.2.1]
    have q2_ : M2_.1 0 5 = M2_.1 124 46 := by simp only [c0v2_, c1v2_, c2v2_, c3v2_, c4v2_, c5v2_, c6v2_, c7v2_, c8v2_, c9v2_, c10v2_, c11v2_, c12v2_, c13v2_, c14v2_, c15v2_, c16v2_, c17v2_, c0v1_, c1v1_, c2v1_, c3v1_, c4v1_, c5v1_, c6v1_, c7v1_, c8v1_, c9v1_, c10v1_, c11v1_, c12v1_, c13v1_, c14v1_, c15v1_, c16v1_, c17v1_, hi.2.1, hi.2.2.1, hi.2.2.2.1, hi.2.2.2.2.1, hi.2.2.2.2.2.1, hi.2.2.2.2.2.2.1, hi.2.2.2.2.2.2.2.1, hi.2.2.2.2.2.2.2.2.1, hi.2.2.2.2.2.2.2.2.2.1]
    have q3_ : M2_.1 101 0 = M2_.1 124 55 := by simp only [c0v2_, c1v2_, c2v2_, c3v2_, c4v2_, c5v2_, c6v2_, c7v2_, c8v2_, c9v2_, c10v2_, c11v2_, c12v2_, c13v2_, c14v2_, c15v2_, c16v2_, c17v2_, c0v1_, c1v1_, c2v1_, c3v1_, c4v1_, c5v1_, c6v1_, c7v1_, c8v1_, c9v1_, c10v1_, c11v1_, c12v1_, c13v1_, c14v1_, c15v1_, c16v1_, c17v1_, hi.2.1, hi.2.2.1, hi.2.2.2.1, hi.2.2.2.2.1, hi.2.2.2.2.2.1, hi.2.2.2.2.2.2.1, hi.2.2.2.2.2.2.2.1, hi.2.2.2.2.2.2.2.2.1, hi.2.2.2.2.2.2.2.2.2.1]
    have q4_ : M2_.1 100 0 = M2_.1 124 37 := by simp only [c0v2_, c1v2_, c2v2_, c3v2_, c4v2_, c5v2_, c6v2_, c7v2_, c8v2_, c9v2_, c10v2_, c11v2_, c12v2_, c13v2_, c14v2_, c15v2_, c16v2_, c17v2_, c0v1_, c1v1_, c2v1_, c3v1_, c4v1_, c5v1_, c6v1_, c7v1_, c8v1_, c9v1_, c10v1_, c11v1_, c12v1_, c13v1_, c14v1_, c15v1_, c16v1_, c17v1_, hi.2.1, hi.2.2.1, hi.2.2.2.1, hi.2.2.2.2.1, hi.2.2.2.2.2.1, hi.2.2.2.2.2.2.1, hi.2.2.2.2.2.2.2.1, hi.2.2.2.2.2.2.2.2.1, hi.2.2.2.2.2.2.2.2.2.1]
    have q5_ : M2_.1 102 0 = M2_.1 124 40 := by simp only [c0v2_, c1v2_, c2v2_, c3v2_, c4v2_, c5v2_, c6v2_, c7v2_, c8v2_, c9v2_, c10v2_, c11v2_, c12v2_, c13v2_, c14v2_, c15v2_, c16v2_, c17v2_, c0v1_, c1v1_, c2v1_, c3v1_, c4v1_, c5v1_, c6v1_, c7v1_, c8v1_, c9v1_, c10v1_, c11v1_, c12v1_, c13v1_, c14v1_, c15v1_, c16v1_, c17v1_, hi.2.1, hi.2.2.1, hi.2.2.2.1, hi.2.2.2.2.1, hi.2.2.2.2.2.1, hi.2.2.2.2.2.2.1, hi.2.2.2.2.2.2.2.1, hi.2.2.2.2.2.2.2.2.1, hi.2.2.2.2.2.2.2.2.2.1]
    have q6_ : M2_.1 103 0 = M2_.1 124 56 := by simp only [c0v2_, c1v2_, c2v2_, c3v2_, c4v2_, c5v2_, c6v2_, c7v2_, c8v2_, c9v2_, c10v2_, c11v2_, c12v2_, c13v2_, c14v2_, c15v2_, c16v2_, c17v2_, c0v1_, c1v1_, c2v1_, c3v1_, c4v1_, c5v1_, c6v1_, c7v1_, c8v1_, c9v1_, c10v1_, c11v1_, c12v1_, c13v1_, c14v1_, c15v1_, c16v1_, c17v1_, hi.2.1, hi.2.2.1, hi.2.2.2.1, hi.2.2.2.2.1, hi.2.2.2.2.2.1, hi.2.2.2.2.2.2.1, hi.2.2.2.2.2.2.2.1, hi.2.2.2.2.2.2.2.2.1, hi.2.2.2.2.2.2.2.2.2.1]
    have q7_ : M2_.1 104 0 = M2_.1 124 43 := by simp only [c0v2_, c1v2_, c2v2_, c3v2_, c4v2_, c5v2_, c6v2_, c7v2_, c8v2_, c9v2_, c10v2_, c11v2_, c12v2_, c13v2_, c14v2_, c15v2_, c16v2_, c17v2_, c0v1_, c1v1_, c2v1_, c3v1_, c4v1_, c5v1_, c6v1_, c7v1_, c8v1_, c9v1_, c10v1_, c11v1_, c12v1_, c13v1_, c14v1_, c15v1_, c16v1_, c17v1_, hi.2.1, hi.2.2.1, hi.2.2.2.1, hi.2.2.2.2.1, hi.2.2.2.2.2.1, hi.2.2.2.2.2.2.1, hi.2.2.2.2.2.2.2.1, hi.2.2.2.2.2.2.2.2.1, hi.2.2.2.2.2.2.2.2.2.1]
    have q8_ : M2_.1 105 0 = M2_.1 124 57 := by simp only [c0v2_, c1v2_, c2v2_, c3v2_, c4v2_, c5v2_, c6v2_, c7v2_, c8v2_, c9v2_, c10v2_, c11v2_, c12v2_, c13v2_, c14v2_, c15v2_, c16v2_, c17v2_, c0v1_, c1v1_, c2v1_, c3v1_, c4v1_, c5v1_, c6v1_, c7v1_, c8v1_, c9v1_, c10v1_, c11v1_, c12v1_, c13v1_, c14v1_, c15v1_, c16v1_, c17v1_, hi.2.1, hi.2.2.1, hi.2.2.2.1, hi.2.2.2.2.1, hi.2.2.2.2.2.1, hi.2.2.2.2.2.2.1, hi.2.2.2.2.2.2.2.1, hi.2.2.2.2.2.2.2.2.1, hi.2.2.2.2.2.2.2.2.2.1]
    exact ⟨q0_, q1_, q2_, q3_, q4_, q5_, q6_, q7_, q8_, zP1_k hi.2.2.2.2.2.2.2.2.2.2.1 (c0v2_.trans c0v1_) (zKc_t K1v1_ K1v2_) (zKm_t K3v1_ K3v2_), zP2_k hi.2.2.2.2.2.2.2.2.2.2.2.1 (c2v2_.trans c2v1_) (zKc_t K2v1_ K2v2_) (zKm_t K4v1_ K4v2_), zPT_k hi.2.2.2.2.2.2.2.2.2.2.2.2.1 T9v1_ T10v1_ T9v2_ T10v2_, zRr_k hi.2.2.2.2.2.2.2.2.2.2.2.2.2.1 (c8v2_.trans c8v1_) G1v1_ G3v1_ G1v2_ G3v2_, zRr_k hi.2.2.2.2.2.2.2.2.2.2.2.2.2.2.1 (c6v2_.trans c6v1_) G2v1_ G4v1_ G2v2_ G4v2_, zPH_k hi.2.2.2.2.2.2.2.2.2.2.2.2.2.2.2.1 A9v1_ A0v1_ A9v2_ A0v2_, zVe_k hi.2.2.2.2.2.2.2.2.2.2.2.2.2.2.2.2.1 (c0v2_.trans c0v1_) VSv1_ WSv1_ VSv2_ WSv2_, zVe_k hi.2.2.2.2.2.2.2.2.2.2.2.2.2.2.2.2.2.1 (c2v2_.trans c2v1_) VKv1_ WKv1_ VKv2_ WKv2_, zHW_d hi.1.1 hi.2.2.2.2.2.2.2.2.2.2.2.2.2.2.2.2.2.2 HBv1_ HDv1_ HBv2_ HDv2_⟩
  refine zr_pop C dL_law_1237 rfl ?_
  refine zr_goto (tgt := 1337) C dL_law_1238 (by decide) ?_
  exact kk M2_ ⟨iv2_, rv2_⟩
set_option maxRecDepth 10000 in
theorem zl_case_37 (htab : pvTab) {p : Program} {l : Launch} {e : Env} {s : State} {m : MethodId} {below : List Frame} {meth : Method} {c : Code} {b L : Nat} {xs : Nat → Int32} {D : va_G} {y : Nat → ClassId} {ad : Nat → Nat} {ls : Array Slot} {i : Int32} {Q : State → Prop} {M : pvM} (C : zLc p s m c b L xs D y ad ls i) (hi : zIR M) (kk : ∀ M1, zIR M1 → zLW p l e s m below meth c b D y ad ls Q 1337 [] M1) : zLW p l e s m below meth c b D y ad ls Q 1241 [] M := by
  refine zr_x C dL_law_1241 ?_
  refine zr_arg 1 C dL_law_1242 dL_law_1243 dL_law_1244 dL_law_1245 dL_law_1246 (by decide) (by decide) ?_
  refine zr_arg 2 C dL_law_1247 dL_law_1248 dL_law_1249 dL_law_1250 dL_law_1251 (by decide) (by decide) ?_
  refine zr_call htab (j := 194) (n := 2) (q := 0) (as := [pvI (xs (i + 1).toNatClampNeg), pvI (xs (i + 2).toNatClampNeg)]) (rest := []) C rfl rfl rfl rfl (lw_X9_read M hi.1 (xs (i + 1).toNatClampNeg) (xs (i + 2).toNatClampNeg)) (zgV zm_1257 zm_1258 zm_1259 zm_2 zm_1260) (by decide +kernel) rfl rfl rfl dL_law_1252 rfl rfl (fun r M1_ h1_ => ?_)
  obtain ⟨⟨v1_, rfl⟩, iv1_, c0v1_, c1v1_, c2v1_, c3v1_, c4v1_, c5v1_, c6v1_, c7v1_, c8v1_, c9v1_, c10v1_, c11v1_, c12v1_, c13v1_, c14v1_, c15v1_, c16v1_, c17v1_, K1v1_, K2v1_, K3v1_, K4v1_, T9v1_, T10v1_, G1v1_, G2v1_, G3v1_, G4v1_, A9v1_, A0v1_, VSv1_, VKv1_, WSv1_, WKv1_, HBv1_, HDv1_⟩ := h1_
  refine zr_pop2 C dL_law_1255 rfl ?_
  refine zr_m C dL_law_1256 ?_
  refine zr_arg 1 C dL_law_1257 dL_law_1258 dL_law_1259 dL_law_1260 dL_law_1261 (by decide) (by decide) ?_
  refine zr_arg 2 C dL_law_1262 dL_law_1263 dL_law_1264 dL_law_1265 dL_law_1266 (by decide) (by decide) ?_
  refine zr_call htab (j := 68) (n := 2) (q := 124) (as := [pvI (xs (i + 1).toNatClampNeg), pvI (xs (i + 2).toNatClampNeg)]) (rest := []) C rfl rfl rfl rfl (lw_X10_read M1_ iv1_ (xs (i + 1).toNatClampNeg) (xs (i + 2).toNatClampNeg)) (zgV zm_1261 zm_1262 zm_1263 zm_5 zm_1264) (by decide +kernel) rfl rfl rfl dL_law_1267 rfl rfl (fun r M2_ h2_ => ?_)
  obtain ⟨⟨v2_, rfl⟩, iv2_, c0v2_, c1v2_, c2v2_, c3v2_, c4v2_, c5v2_, c6v2_, c7v2_, c8v2_, c9v2_, c10v2_, c11v2_, c12v2_, c13v2_, c14v2_, c15v2_, c16v2_, c17v2_, K1v2_, K2v2_, K3v2_, K4v2_, T9v2_, T10v2_, G1v2_, G2v2_, G3v2_, G4v2_, A9v2_, A0v2_, VSv2_, VKv2_, WSv2_, WKv2_, HBv2_, HDv2_⟩ := h2_
  have rv2_ : zRl M2_ := by
    have q0_ : M2_.1 8 1 = M2_.1 124 0 := by simp only [c0v2_, c1v2_, c2v2_, c3v2_, c4v2_, c5v2_, c6v2_, c7v2_, c8v2_, c9v2_, c10v2_, c11v2_, c12v2_, c13v2_, c14v2_, c15v2_, c16v2_, c17v2_, c0v1_, c1v1_, c2v1_, c3v1_, c4v1_, c5v1_, c6v1_, c7v1_, c8v1_, c9v1_, c10v1_, c11v1_, c12v1_, c13v1_, c14v1_, c15v1_, c16v1_, c17v1_, hi.2.1, hi.2.2.1, hi.2.2.2.1, hi.2.2.2.2.1, hi.2.2.2.2.2.1, hi.2.2.2.2.2.2.1, hi.2.2.2.2.2.2.2.1, hi.2.2.2.2.2.2.2.2.1, hi.2.2.2.2.2.2.2.2.2.1]
    have q1_ : M2_.1 9 1 = M2_.1 124 48 := by simp only [c0v2_, c1v2_, c2v2_, c3v2_, c4v2_, c5v2_, c6v2_, c7v2_, c8v2_, c9v2_, c10v2_, c11v2_, c12v2_, c13v2_, c14v2_, c15v2_, c16v2_, c17v2_, c0v1_, c1v1_, c2v1_, c3v1_, c4v1_, c5v1_, c6v1_, c7v1_, c8v1_, c9v1_, c10v1_, c11v1_, c12v1_, c13v1_, c14v1_, c15v1_, c16v1_, c17v1_, hi.2.1, hi.2.2.1, hi.2.2.2.1, hi.2.2.2.2.1, hi.2.2.2.2.2.1, hi.2.2.2.2.2.2.1, hi.2.2.2.2.2.2.2.1, hi.2.2.2.2.2.2.2.2.1, hi.2.2.2.2.2.2.2.2.2.1]
    have q2_ : M2_.1 0 5 = M2_.1 124 46 := by simp only [c0v2_, c1v2_, c2v2_, c3v2_, c4v2_, c5v2_, c6v2_, c7v2_, c8v2_, c9v2_, c10v2_, c11v2_, c12v2_, c13v2_, c14v2_, c15v2_, c16v2_, c17v2_, c0v1_, c1v1_, c2v1_, c3v1_, c4v1_, c5v1_, c6v1_, c7v1_, c8v1_, c9v1_, c10v1_, c11v1_, c12v1_, c13v1_, c14v1_, c15v1_, c16v1_, c17v1_, hi.2.1, hi.2.2.1, hi.2.2.2.1, hi.2.2.2.2.1, hi.2.2.2.2.2.1, hi.2.2.2.2.2.2.1, hi.2.2.2.2.2.2.2.1, hi.2.2.2.2.2.2.2.2.1, hi.2.2.2.2.2.2.2.2.2.1]
    have q3_ : M2_.1 101 0 = M2_.1 124 55 := by simp only [c0v2_, c1v2_, c2v2_, c3v2_, c4v2_, c5v2_, c6v2_, c7v2_, c8v2_, c9v2_, c10v2_, c11v2_, c12v2_, c13v2_, c14v2_, c15v2_, c16v2_, c17v2_, c0v1_, c1v1_, c2v1_, c3v1_, c4v1_, c5v1_, c6v1_, c7v1_, c8v1_, c9v1_, c10v1_, c11v1_, c12v1_, c13v1_, c14v1_, c15v1_, c16v1_, c17v1_, hi.2.1, hi.2.2.1, hi.2.2.2.1, hi.2.2.2.2.1, hi.2.2.2.2.2.1, hi.2.2.2.2.2.2.1, hi.2.2.2.2.2.2.2.1, hi.2.2.2.2.2.2.2.2.1, hi.2.2.2.2.2.2.2.2.2.1]
    have q4_ : M2_.1 100 0 = M2_.1 124 37 := by simp only [c0v2_, c1v2_, c2v2_, c3v2_, c4v2_, c5v2_, c6v2_, c7v2_, c8v2_, c9v2_, c10v2_, c11v2_, c12v2_, c13v2_, c14v2_, c15v2_, c16v2_, c17v2_, c0v1_, c1v1_, c2v1_, c3v1_, c4v1_, c5v1_, c6v1_, c7v1_, c8v1_, c9v1_, c10v1_, c11v1_, c12v1_, c13v1_, c14v1_, c15v1_, c16v1_, c17v1_, hi.2.1, hi.2.2.1, hi.2.2.2.1, hi.2.2.2.2.1, hi.2.2.2.2.2.1, hi.2.2.2.2.2.2.1, hi.2.2.2.2.2.2.2.1, hi.2.2.2.2.2.2.2.2.1, hi.2.2.2.2.2.2.2.2.2.1]
    have q5_ : M2_.1 102 0 = M2_.1 124 40 := by simp only [c0v2_, c1v2_, c2v2_, c3v2_, c4v2_, c5v2_, c6v2_, c7v2_, c8v2_, c9v2_, c10v2_, c11v2_, c12v2_, c13v2_, c14v2_, c15v2_, c16v2_, c17v2_, c0v1_, c1v1_, c2v1_, c3v1_, c4v1_, c5v1_, c6v1_, c7v1_, c8v1_, c9v1_, c10v1_, c11v1_, c12v1_, c13v1_, c14v1_, c15v1_, c16v1_, c17v1_, hi.2.1, hi.2.2.1, hi.2.2.2.1, hi.2.2.2.2.1, hi.2.2.2.2.2.1, hi.2.2.2.2.2.2.1, hi.2.2.2.2.2.2.2.1, hi.2.2.2.2.2.2.2.2.1, hi.2.2.2.2.2.2.2.2.2.1]
    have q6_ : M2_.1 103 0 = M2_.1 124 56 := by simp only [c0v2_, c1v2_, c2v2_, c3v2_, c4v2_, c5v2_, c6v2_, c7v2_, c8v2_, c9v2_, c10v2_, c11v2_, c12v2_, c13v2_, c14v2_, c15v2_, c16v2_, c17v2_, c0v1_, c1v1_, c2v1_, c3v1_, c4v1_, c5v1_, c6v1_, c7v1_, c8v1_, c9v1_, c10v1_, c11v1_, c12v1_, c13v1_, c14v1_, c15v1_, c16v1_, c17v1_, hi.2.1, hi.2.2.1, hi.2.2.2.1, hi.2.2.2.2.1, hi.2.2.2.2.2.1, hi.2.2.2.2.2.2.1, hi.2.2.2.2.2.2.2.1, hi.2.2.2.2.2.2.2.2.1, hi.2.2.2.2.2.2.2.2.2.1]
    have q7_ : M2_.1 104 0 = M2_.1 124 43 := by simp only [c0v2_, c1v2_, c2v2_, c3v2_, c4v2_, c5v2_, c6v2_, c7v2_, c8v2_, c9v2_, c10v2_, c11v2_, c12v2_, c13v2_, c14v2_, c15v2_, c16v2_, c17v2_, c0v1_, c1v1_, c2v1_, c3v1_, c4v1_, c5v1_, c6v1_, c7v1_, c8v1_, c9v1_, c10v1_, c11v1_, c12v1_, c13v1_, c14v1_, c15v1_, c16v1_, c17v1_, hi.2.1, hi.2.2.1, hi.2.2.2.1, hi.2.2.2.2.1, hi.2.2.2.2.2.1, hi.2.2.2.2.2.2.1, hi.2.2.2.2.2.2.2.1, hi.2.2.2.2.2.2.2.2.1, hi.2.2.2.2.2.2.2.2.2.1]
    have q8_ : M2_.1 105 0 = M2_.1 124 57 := by simp only [c0v2_, c1v2_, c2v2_, c3v2_, c4v2_, c5v2_, c6v2_, c7v2_, c8v2_, c9v2_, c10v2_, c11v2_, c12v2_, c13v2_, c14v2_, c15v2_, c16v2_, c17v2_, c0v1_, c1v1_, c2v1_, c3v1_, c4v1_, c5v1_, c6v1_, c7v1_, c8v1_, c9v1_, c10v1_, c11v1_, c12v1_, c13v1_, c14v1_, c15v1_, c16v1_, c17v1_, hi.2.1, hi.2.2.1, hi.2.2.2.1, hi.2.2.2.2.1, hi.2.2.2.2.2.1, hi.2.2.2.2.2.2.1, hi.2.2.2.2.2.2.2.1, hi.2.2.2.2.2.2.2.2.1, hi.2.2.2.2.2.2.2.2.2.1]
    exact ⟨q0_, q1_, q2_, q3_, q4_, q5_, q6_, q7_, q8_, zP1_k hi.2.2.2.2.2.2.2.2.2.2.1 (c0v2_.trans c0v1_) (zKc_t K1v1_ K1v2_) (zKm_t K3v1_ K3v2_), zP2_k hi.2.2.2.2.2.2.2.2.2.2.2.1 (c2v2_.trans c2v1_) (zKc_t K2v1_ K2v2_) (zKm_t K4v1_ K4v2_), zPT_k hi.2.2.2.2.2.2.2.2.2.2.2.2.1 T9v1_ T10v1_ T9v2_ T10v2_, zRr_k hi.2.2.2.2.2.2.2.2.2.2.2.2.2.1 (c8v2_.trans c8v1_) G1v1_ G3v1_ G1v2_ G3v2_, zRr_k hi.2.2.2.2.2.2.2.2.2.2.2.2.2.2.1 (c6v2_.trans c6v1_) G2v1_ G4v1_ G2v2_ G4v2_, zPH_k hi.2.2.2.2.2.2.2.2.2.2.2.2.2.2.2.1 A9v1_ A0v1_ A9v2_ A0v2_, zVe_k hi.2.2.2.2.2.2.2.2.2.2.2.2.2.2.2.2.1 (c0v2_.trans c0v1_) VSv1_ WSv1_ VSv2_ WSv2_, zVe_k hi.2.2.2.2.2.2.2.2.2.2.2.2.2.2.2.2.2.1 (c2v2_.trans c2v1_) VKv1_ WKv1_ VKv2_ WKv2_, zHW_d hi.1.1 hi.2.2.2.2.2.2.2.2.2.2.2.2.2.2.2.2.2.2 HBv1_ HDv1_ HBv2_ HDv2_⟩
  refine zr_pop2 C dL_law_1270 rfl ?_
  refine zr_goto (tgt := 1337) C dL_law_1271 (by decide) ?_
  exact kk M2_ ⟨iv2_, rv2_⟩
set_option maxRecDepth 10000 in
theorem zl_case_38 (htab : pvTab) {p : Program} {l : Launch} {e : Env} {s : State} {m : MethodId} {below : List Frame} {meth : Method} {c : Code} {b L : Nat} {xs : Nat → Int32} {D : va_G} {y : Nat → ClassId} {ad : Nat → Nat} {ls : Array Slot} {i : Int32} {Q : State → Prop} {M : pvM} (C : zLc p s m c b L xs D y ad ls i) (hi : zIR M) (kk : ∀ M1, zIR M1 → zLW p l e s m below meth c b D y ad ls Q 1337 [] M1) : zLW p l e s m below meth c b D y ad ls Q 1274 [] M := by
  refine zr_x C dL_law_1274 ?_
  refine zr_arg 1 C dL_law_1275 dL_law_1276 dL_law_1277 dL_law_1278 dL_law_1279 (by decide) (by decide) ?_
  refine zr_arg 2 C dL_law_1280 dL_law_1281 dL_law_1282 dL_law_1283 dL_law_1284 (by decide) (by decide) ?_
  refine zr_arg 3 C dL_law_1285 dL_law_1286 dL_law_1287 dL_law_1288 dL_law_1289 (by decide) (by decide) ?_
  refine zr_arg 4 C dL_law_1290 dL_law_1291 dL_law_1292 dL_law_1293 dL_law_1294 (by decide) (by decide) ?_
  refine zr_arg 5 C dL_law_1295 dL_law_1296 dL_law_1297 dL_law_1298 dL_law_1299 (by decide) (by decide) ?_
  refine zr_call htab (j := 198) (n := 5) (q := 0) (as := [pvI (xs (i + 1).toNatClampNeg), pvI (xs (i + 2).toNatClampNeg), pvI (xs (i + 3).toNatClampNeg), pvI (xs (i + 4).toNatClampNeg), pvI (xs (i + 5).toNatClampNeg)]) (rest := []) C rfl rfl rfl rfl (lw_X9_shift M hi.1 (xs (i + 1).toNatClampNeg) (xs (i + 2).toNatClampNeg) (xs (i + 3).toNatClampNeg) (xs (i + 4).toNatClampNeg) (xs (i + 5).toNatClampNeg)) (zgV zm_1265 zm_1266 zm_1267 zm_2 zm_1268) (by decide +kernel) rfl rfl rfl dL_law_1300 rfl rfl (fun r M1_ h1_ => ?_)
  obtain ⟨⟨v1_, rfl⟩, iv1_, c0v1_, c1v1_, c2v1_, c3v1_, c4v1_, c5v1_, c6v1_, c7v1_, c8v1_, c9v1_, c10v1_, c11v1_, c12v1_, c13v1_, c14v1_, c15v1_, c16v1_, c17v1_, K1v1_, K2v1_, K3v1_, K4v1_, T9v1_, T10v1_, G1v1_, G2v1_, G3v1_, G4v1_, A9v1_, A0v1_, VSv1_, VKv1_, WSv1_, WKv1_, HBv1_, HDv1_⟩ := h1_
  refine zr_pop C dL_law_1303 rfl ?_
  refine zr_m C dL_law_1304 ?_
  refine zr_arg 1 C dL_law_1305 dL_law_1306 dL_law_1307 dL_law_1308 dL_law_1309 (by decide) (by decide) ?_
  refine zr_arg 2 C dL_law_1310 dL_law_1311 dL_law_1312 dL_law_1313 dL_law_1314 (by decide) (by decide) ?_
  refine zr_arg 3 C dL_law_1315 dL_law_1316 dL_law_1317 dL_law_1318 dL_law_1319 (by decide) (by decide) ?_
  refine zr_arg 4 C dL_law_1320 dL_law_1321 dL_law_1322 dL_law_1323 dL_law_1324 (by decide) (by decide) ?_
  refine zr_arg 5 C dL_law_1325 dL_law_1326 dL_law_1327 dL_law_1328 dL_law_1329 (by decide) (by decide) ?_
  refine zr_call htab (j := 73) (n := 5) (q := 124) (as := [pvI (xs (i + 1).toNatClampNeg), pvI (xs (i + 2).toNatClampNeg), pvI (xs (i + 3).toNatClampNeg), pvI (xs (i + 4).toNatClampNeg), pvI (xs (i + 5).toNatClampNeg)]) (rest := []) C rfl rfl rfl rfl (lw_X10_shift M1_ iv1_ (xs (i + 1).toNatClampNeg) (xs (i + 2).toNatClampNeg) (xs (i + 3).toNatClampNeg) (xs (i + 4).toNatClampNeg) (xs (i + 5).toNatClampNeg)) (zgV zm_1274 zm_1275 zm_1276 zm_5 zm_1277) (by decide +kernel) rfl rfl rfl dL_law_1330 rfl rfl (fun r M2_ h2_ => ?_)
  obtain ⟨⟨v2_, rfl⟩, iv2_, c0v2_, c1v2_, c2v2_, c3v2_, c4v2_, c5v2_, c6v2_, c7v2_, c8v2_, c9v2_, c10v2_, c11v2_, c12v2_, c13v2_, c14v2_, c15v2_, c16v2_, c17v2_, K1v2_, K2v2_, K3v2_, K4v2_, T9v2_, T10v2_, G1v2_, G2v2_, G3v2_, G4v2_, A9v2_, A0v2_, VSv2_, VKv2_, WSv2_, WKv2_, HBv2_, HDv2_⟩ := h2_
  have rv2_ : zRl M2_ := by
    have q0_ : M2_.1 8 1 = M2_.1 124 0 := by simp only [c0v2_, c1v2_, c2v2_, c3v2_, c4v2_, c5v2_, c6v2_, c7v2_, c8v2_, c9v2_, c10v2_, c11v2_, c12v2_, c13v2_, c14v2_, c15v2_, c16v2_, c17v2_, c0v1_, c1v1_, c2v1_, c3v1_, c4v1_, c5v1_, c6v1_, c7v1_, c8v1_, c9v1_, c10v1_, c11v1_, c12v1_, c13v1_, c14v1_, c15v1_, c16v1_, c17v1_, hi.2.1, hi.2.2.1, hi.2.2.2.1, hi.2.2.2.2.1, hi.2.2.2.2.2.1, hi.2.2.2.2.2.2.1, hi.2.2.2.2.2.2.2.1, hi.2.2.2.2.2.2.2.2.1, hi.2.2.2.2.2.2.2.2.2.1]
    have q1_ : M2_.1 9 1 = M2_.1 124 48 := by simp only [c0v2_, c1v2_, c2v2_, c3v2_, c4v2_, c5v2_, c6v2_, c7v2_, c8v2_, c9v2_, c10v2_, c11v2_, c12v2_, c13v2_, c14v2_, c15v2_, c16v2_, c17v2_, c0v1_, c1v1_, c2v1_, c3v1_, c4v1_, c5v1_, c6v1_, c7v1_, c8v1_, c9v1_, c10v1_, c11v1_, c12v1_, c13v1_, c14v1_, c15v1_, c16v1_, c17v1_, hi.2.1, hi.2.2.1, hi.2.2.2.1, hi.2.2.2.2.1, hi.2.2.2.2.2.1, hi.2.2.2.2.2.2.1, hi.2.2.2.2.2.2.2.1, hi.2.2.2.2.2.2.2.2.1, hi.2.2.2.2.2.2.2.2.2.1]
    have q2_ : M2_.1 0 5 = M2_.1 124 46 := by simp only [c0v2_, c1v2_, c2v2_, c3v2_, c4v2_, c5v2_, c6v2_, c7v2_, c8v2_, c9v2_, c10v2_, c11v2_, c12v2_, c13v2_, c14v2_, c15v2_, c16v2_, c17v2_, c0v1_, c1v1_, c2v1_, c3v1_, c4v1_, c5v1_, c6v1_, c7v1_, c8v1_, c9v1_, c10v1_, c11v1_, c12v1_, c13v1_, c14v1_, c15v1_, c16v1_, c17v1_, hi.2.1, hi.2.2.1, hi.2.2.2.1, hi.2.2.2.2.1, hi.2.2.2.2.2.1, hi.2.2.2.2.2.2.1, hi.2.2.2.2.2.2.2.1, hi.2.2.2.2.2.2.2.2.1, hi.2.2.2.2.2.2.2.2.2.1]
    have q3_ : M2_.1 101 0 = M2_.1 124 55 := by simp only [c0v2_, c1v2_, c2v2_, c3v2_, c4v2_, c5v2_, c6v2_, c7v2_, c8v2_, c9v2_, c10v2_, c11v2_, c12v2_, c13v2_, c14v2_, c15v2_, c16v2_, c17v2_, c0v1_, c1v1_, c2v1_, c3v1_, c4v1_, c5v1_, c6v1_, c7v1_, c8v1_, c9v1_, c10v1_, c11v1_, c12v1_, c13v1_, c14v1_, c15v1_, c16v1_, c17v1_, hi.2.1, hi.2.2.1, hi.2.2.2.1, hi.2.2.2.2.1, hi.2.2.2.2.2.1, hi.2.2.2.2.2.2.1, hi.2.2.2.2.2.2.2.1, hi.2.2.2.2.2.2.2.2.1, hi.2.2.2.2.2.2.2.2.2.1]
    have q4_ : M2_.1 100 0 = M2_.1 124 37 := by simp only [c0v2_, c1v2_, c2v2_, c3v2_, c4v2_, c5v2_, c6v2_, c7v2_, c8v2_, c9v2_, c10v2_, c11v2_, c12v2_, c13v2_, c14v2_, c15v2_, c16v2_, c17v2_, c0v1_, c1v1_, c2v1_, c3v1_, c4v1_, c5v1_, c6v1_, c7v1_, c8v1_, c9v1_, c10v1_, c11v1_, c12v1_, c13v1_, c14v1_, c15v1_, c16v1_, c17v1_, hi.2.1, hi.2.2.1, hi.2.2.2.1, hi.2.2.2.2.1, hi.2.2.2.2.2.1, hi.2.2.2.2.2.2.1, hi.2.2.2.2.2.2.2.1, hi.2.2.2.2.2.2.2.2.1, hi.2.2.2.2.2.2.2.2.2.1]
    have q5_ : M2_.1 102 0 = M2_.1 124 40 := by simp only [c0v2_, c1v2_, c2v2_, c3v2_, c4v2_, c5v2_, c6v2_, c7v2_, c8v2_, c9v2_, c10v2_, c11v2_, c12v2_, c13v2_, c14v2_, c15v2_, c16v2_, c17v2_, c0v1_, c1v1_, c2v1_, c3v1_, c4v1_, c5v1_, c6v1_, c7v1_, c8v1_, c9v1_, c10v1_, c11v1_, c12v1_, c13v1_, c14v1_, c15v1_, c16v1_, c17v1_, hi.2.1, hi.2.2.1, hi.2.2.2.1, hi.2.2.2.2.1, hi.2.2.2.2.2.1, hi.2.2.2.2.2.2.1, hi.2.2.2.2.2.2.2.1, hi.2.2.2.2.2.2.2.2.1, hi.2.2.2.2.2.2.2.2.2.1]
    have q6_ : M2_.1 103 0 = M2_.1 124 56 := by simp only [c0v2_, c1v2_, c2v2_, c3v2_, c4v2_, c5v2_, c6v2_, c7v2_, c8v2_, c9v2_, c10v2_, c11v2_, c12v2_, c13v2_, c14v2_, c15v2_, c16v2_, c17v2_, c0v1_, c1v1_, c2v1_, c3v1_, c4v1_, c5v1_, c6v1_, c7v1_, c8v1_, c9v1_, c10v1_, c11v1_, c12v1_, c13v1_, c14v1_, c15v1_, c16v1_, c17v1_, hi.2.1, hi.2.2.1, hi.2.2.2.1, hi.2.2.2.2.1, hi.2.2.2.2.2.1, hi.2.2.2.2.2.2.1, hi.2.2.2.2.2.2.2.1, hi.2.2.2.2.2.2.2.2.1, hi.2.2.2.2.2.2.2.2.2.1]
    have q7_ : M2_.1 104 0 = M2_.1 124 43 := by simp only [c0v2_, c1v2_, c2v2_, c3v2_, c4v2_, c5v2_, c6v2_, c7v2_, c8v2_, c9v2_, c10v2_, c11v2_, c12v2_, c13v2_, c14v2_, c15v2_, c16v2_, c17v2_, c0v1_, c1v1_, c2v1_, c3v1_, c4v1_, c5v1_, c6v1_, c7v1_, c8v1_, c9v1_, c10v1_, c11v1_, c12v1_, c13v1_, c14v1_, c15v1_, c16v1_, c17v1_, hi.2.1, hi.2.2.1, hi.2.2.2.1, hi.2.2.2.2.1, hi.2.2.2.2.2.1, hi.2.2.2.2.2.2.1, hi.2.2.2.2.2.2.2.1, hi.2.2.2.2.2.2.2.2.1, hi.2.2.2.2.2.2.2.2.2.1]
    have q8_ : M2_.1 105 0 = M2_.1 124 57 := by simp only [c0v2_, c1v2_, c2v2_, c3v2_, c4v2_, c5v2_, c6v2_, c7v2_, c8v2_, c9v2_, c10v2_, c11v2_, c12v2_, c13v2_, c14v2_, c15v2_, c16v2_, c17v2_, c0v1_, c1v1_, c2v1_, c3v1_, c4v1_, c5v1_, c6v1_, c7v1_, c8v1_, c9v1_, c10v1_, c11v1_, c12v1_, c13v1_, c14v1_, c15v1_, c16v1_, c17v1_, hi.2.1, hi.2.2.1, hi.2.2.2.1, hi.2.2.2.2.1, hi.2.2.2.2.2.1, hi.2.2.2.2.2.2.1, hi.2.2.2.2.2.2.2.1, hi.2.2.2.2.2.2.2.2.1, hi.2.2.2.2.2.2.2.2.2.1]
    exact ⟨q0_, q1_, q2_, q3_, q4_, q5_, q6_, q7_, q8_, zP1_k hi.2.2.2.2.2.2.2.2.2.2.1 (c0v2_.trans c0v1_) (zKc_t K1v1_ K1v2_) (zKm_t K3v1_ K3v2_), zP2_k hi.2.2.2.2.2.2.2.2.2.2.2.1 (c2v2_.trans c2v1_) (zKc_t K2v1_ K2v2_) (zKm_t K4v1_ K4v2_), zPT_k hi.2.2.2.2.2.2.2.2.2.2.2.2.1 T9v1_ T10v1_ T9v2_ T10v2_, zRr_k hi.2.2.2.2.2.2.2.2.2.2.2.2.2.1 (c8v2_.trans c8v1_) G1v1_ G3v1_ G1v2_ G3v2_, zRr_k hi.2.2.2.2.2.2.2.2.2.2.2.2.2.2.1 (c6v2_.trans c6v1_) G2v1_ G4v1_ G2v2_ G4v2_, zPH_k hi.2.2.2.2.2.2.2.2.2.2.2.2.2.2.2.1 A9v1_ A0v1_ A9v2_ A0v2_, zVe_k hi.2.2.2.2.2.2.2.2.2.2.2.2.2.2.2.2.1 (c0v2_.trans c0v1_) VSv1_ WSv1_ VSv2_ WSv2_, zVe_k hi.2.2.2.2.2.2.2.2.2.2.2.2.2.2.2.2.2.1 (c2v2_.trans c2v1_) VKv1_ WKv1_ VKv2_ WKv2_, zHW_d hi.1.1 hi.2.2.2.2.2.2.2.2.2.2.2.2.2.2.2.2.2.2 HBv1_ HDv1_ HBv2_ HDv2_⟩
  refine zr_pop C dL_law_1333 rfl ?_
  refine zr_goto (tgt := 1337) C dL_law_1334 (by decide) ?_
  exact kk M2_ ⟨iv2_, rv2_⟩
