theorem dL_law_204 : decode cL_law 204 = .ok (.aload_n 1, 1) := by decide +kernel
theorem dL_law_205 : decode cL_law 205 = .ok (.aload_n 0, 1) := by decide +kernel
theorem dL_law_206 : decode cL_law 206 = .ok (.iload_n 3, 1) := by decide +kernel
theorem dL_law_207 : decode cL_law 207 = .ok (.iconst 1, 1) := by decide +kernel
theorem dL_law_208 : decode cL_law 208 = .ok (.iadd, 1) := by decide +kernel
theorem dL_law_209 : decode cL_law 209 = .ok (.iaload, 1) := by decide +kernel
theorem dL_law_210 : decode cL_law 210 = .ok (.aload_n 0, 1) := by decide +kernel
theorem dL_law_211 : decode cL_law 211 = .ok (.iload_n 3, 1) := by decide +kernel
theorem dL_law_212 : decode cL_law 212 = .ok (.iconst 2, 1) := by decide +kernel
theorem dL_law_213 : decode cL_law 213 = .ok (.iadd, 1) := by decide +kernel
theorem dL_law_214 : decode cL_law 214 = .ok (.iaload, 1) := by decide +kernel
theorem dL_law_215 : decode cL_law 215 = .ok (.aload_n 0, 1) := by decide +kernel
theorem dL_law_216 : decode cL_law 216 = .ok (.iload_n 3, 1) := by decide +kernel
theorem dL_law_217 : decode cL_law 217 = .ok (.iconst 3, 1) := by decide +kernel
theorem dL_law_218 : decode cL_law 218 = .ok (.iadd, 1) := by decide +kernel
theorem dL_law_219 : decode cL_law 219 = .ok (.iaload, 1) := by decide +kernel
theorem dL_law_220 : decode cL_law 220 = .ok (.aload_n 0, 1) := by decide +kernel
theorem dL_law_221 : decode cL_law 221 = .ok (.iload_n 3, 1) := by decide +kernel
theorem dL_law_222 : decode cL_law 222 = .ok (.iconst 4, 1) := by decide +kernel
theorem dL_law_223 : decode cL_law 223 = .ok (.iadd, 1) := by decide +kernel
theorem dL_law_224 : decode cL_law 224 = .ok (.iaload, 1) := by decide +kernel
theorem dL_law_225 : decode cL_law 225 = .ok (.aload_n 0, 1) := by decide +kernel
theorem dL_law_226 : decode cL_law 226 = .ok (.iload_n 3, 1) := by decide +kernel
theorem dL_law_227 : decode cL_law 227 = .ok (.iconst 5, 1) := by decide +kernel
theorem dL_law_228 : decode cL_law 228 = .ok (.iadd, 1) := by decide +kernel
theorem dL_law_229 : decode cL_law 229 = .ok (.iaload, 1) := by decide +kernel
theorem dL_law_230 : decode cL_law 230 = .ok (.invokevirtual 13, 3) := by decide +kernel
theorem dL_law_233 : decode cL_law 233 = .ok (.aload_n 2, 1) := by decide +kernel
theorem dL_law_234 : decode cL_law 234 = .ok (.aload_n 0, 1) := by decide +kernel
theorem dL_law_235 : decode cL_law 235 = .ok (.iload_n 3, 1) := by decide +kernel
theorem dL_law_236 : decode cL_law 236 = .ok (.iconst 1, 1) := by decide +kernel
theorem dL_law_237 : decode cL_law 237 = .ok (.iadd, 1) := by decide +kernel
theorem dL_law_238 : decode cL_law 238 = .ok (.iaload, 1) := by decide +kernel
theorem dL_law_239 : decode cL_law 239 = .ok (.aload_n 0, 1) := by decide +kernel
theorem dL_law_240 : decode cL_law 240 = .ok (.iload_n 3, 1) := by decide +kernel
theorem dL_law_241 : decode cL_law 241 = .ok (.iconst 2, 1) := by decide +kernel
theorem dL_law_242 : decode cL_law 242 = .ok (.iadd, 1) := by decide +kernel
theorem dL_law_243 : decode cL_law 243 = .ok (.iaload, 1) := by decide +kernel
theorem dL_law_244 : decode cL_law 244 = .ok (.aload_n 0, 1) := by decide +kernel
theorem dL_law_245 : decode cL_law 245 = .ok (.iload_n 3, 1) := by decide +kernel
theorem dL_law_246 : decode cL_law 246 = .ok (.iconst 3, 1) := by decide +kernel
theorem dL_law_247 : decode cL_law 247 = .ok (.iadd, 1) := by decide +kernel
theorem dL_law_248 : decode cL_law 248 = .ok (.iaload, 1) := by decide +kernel
theorem dL_law_249 : decode cL_law 249 = .ok (.aload_n 0, 1) := by decide +kernel
theorem dL_law_250 : decode cL_law 250 = .ok (.iload_n 3, 1) := by decide +kernel
theorem dL_law_251 : decode cL_law 251 = .ok (.iconst 4, 1) := by decide +kernel
theorem dL_law_252 : decode cL_law 252 = .ok (.iadd, 1) := by decide +kernel
theorem dL_law_253 : decode cL_law 253 = .ok (.iaload, 1) := by decide +kernel
theorem dL_law_254 : decode cL_law 254 = .ok (.aload_n 0, 1) := by decide +kernel
theorem dL_law_255 : decode cL_law 255 = .ok (.iload_n 3, 1) := by decide +kernel
theorem dL_law_256 : decode cL_law 256 = .ok (.iconst 5, 1) := by decide +kernel
theorem dL_law_257 : decode cL_law 257 = .ok (.iadd, 1) := by decide +kernel
theorem dL_law_258 : decode cL_law 258 = .ok (.iaload, 1) := by decide +kernel
theorem dL_law_259 : decode cL_law 259 = .ok (.invokevirtual 17, 3) := by decide +kernel
theorem dL_law_262 : decode cL_law 262 = .ok (.if_icmp .eq 1078, 3) := by decide +kernel
theorem dL_law_267 : decode cL_law 267 = .ok (.aload_n 1, 1) := by decide +kernel
theorem dL_law_268 : decode cL_law 268 = .ok (.aload_n 0, 1) := by decide +kernel
theorem dL_law_269 : decode cL_law 269 = .ok (.iload_n 3, 1) := by decide +kernel
theorem dL_law_270 : decode cL_law 270 = .ok (.iconst 1, 1) := by decide +kernel
theorem dL_law_271 : decode cL_law 271 = .ok (.iadd, 1) := by decide +kernel
theorem dL_law_272 : decode cL_law 272 = .ok (.iaload, 1) := by decide +kernel
theorem dL_law_273 : decode cL_law 273 = .ok (.aload_n 0, 1) := by decide +kernel
theorem dL_law_274 : decode cL_law 274 = .ok (.iload_n 3, 1) := by decide +kernel
theorem dL_law_275 : decode cL_law 275 = .ok (.iconst 2, 1) := by decide +kernel
theorem dL_law_276 : decode cL_law 276 = .ok (.iadd, 1) := by decide +kernel
theorem dL_law_277 : decode cL_law 277 = .ok (.iaload, 1) := by decide +kernel
theorem dL_law_278 : decode cL_law 278 = .ok (.invokevirtual 18, 3) := by decide +kernel
theorem dL_law_281 : decode cL_law 281 = .ok (.aload_n 2, 1) := by decide +kernel
theorem dL_law_282 : decode cL_law 282 = .ok (.aload_n 0, 1) := by decide +kernel
theorem dL_law_283 : decode cL_law 283 = .ok (.iload_n 3, 1) := by decide +kernel
theorem dL_law_284 : decode cL_law 284 = .ok (.iconst 1, 1) := by decide +kernel
theorem dL_law_285 : decode cL_law 285 = .ok (.iadd, 1) := by decide +kernel
theorem dL_law_286 : decode cL_law 286 = .ok (.iaload, 1) := by decide +kernel
theorem dL_law_287 : decode cL_law 287 = .ok (.aload_n 0, 1) := by decide +kernel
theorem dL_law_288 : decode cL_law 288 = .ok (.iload_n 3, 1) := by decide +kernel
theorem dL_law_289 : decode cL_law 289 = .ok (.iconst 2, 1) := by decide +kernel
theorem dL_law_290 : decode cL_law 290 = .ok (.iadd, 1) := by decide +kernel
theorem dL_law_291 : decode cL_law 291 = .ok (.iaload, 1) := by decide +kernel
theorem dL_law_292 : decode cL_law 292 = .ok (.invokevirtual 22, 3) := by decide +kernel
theorem dL_law_295 : decode cL_law 295 = .ok (.if_icmp .eq 1045, 3) := by decide +kernel
theorem dL_law_300 : decode cL_law 300 = .ok (.aload_n 1, 1) := by decide +kernel
theorem dL_law_301 : decode cL_law 301 = .ok (.aload_n 0, 1) := by decide +kernel
theorem dL_law_302 : decode cL_law 302 = .ok (.iload_n 3, 1) := by decide +kernel
theorem dL_law_303 : decode cL_law 303 = .ok (.iconst 1, 1) := by decide +kernel
theorem dL_law_304 : decode cL_law 304 = .ok (.iadd, 1) := by decide +kernel
theorem dL_law_305 : decode cL_law 305 = .ok (.iaload, 1) := by decide +kernel
theorem dL_law_306 : decode cL_law 306 = .ok (.aload_n 0, 1) := by decide +kernel
theorem dL_law_307 : decode cL_law 307 = .ok (.iload_n 3, 1) := by decide +kernel
theorem dL_law_308 : decode cL_law 308 = .ok (.iconst 2, 1) := by decide +kernel
theorem dL_law_309 : decode cL_law 309 = .ok (.iadd, 1) := by decide +kernel
theorem dL_law_310 : decode cL_law 310 = .ok (.iaload, 1) := by decide +kernel
theorem dL_law_311 : decode cL_law 311 = .ok (.ifCond .eq 7, 3) := by decide +kernel
theorem dL_law_314 : decode cL_law 314 = .ok (.iconst 1, 1) := by decide +kernel
theorem dL_law_315 : decode cL_law 315 = .ok (.goto 4, 3) := by decide +kernel
theorem dL_law_318 : decode cL_law 318 = .ok (.iconst 0, 1) := by decide +kernel
theorem dL_law_319 : decode cL_law 319 = .ok (.invokevirtual 23, 3) := by decide +kernel
theorem dL_law_322 : decode cL_law 322 = .ok (.aload_n 2, 1) := by decide +kernel
theorem dL_law_323 : decode cL_law 323 = .ok (.aload_n 0, 1) := by decide +kernel
theorem dL_law_324 : decode cL_law 324 = .ok (.iload_n 3, 1) := by decide +kernel
theorem dL_law_325 : decode cL_law 325 = .ok (.iconst 1, 1) := by decide +kernel
theorem dL_law_326 : decode cL_law 326 = .ok (.iadd, 1) := by decide +kernel
theorem dL_law_327 : decode cL_law 327 = .ok (.iaload, 1) := by decide +kernel
theorem dL_law_328 : decode cL_law 328 = .ok (.aload_n 0, 1) := by decide +kernel
theorem dL_law_329 : decode cL_law 329 = .ok (.iload_n 3, 1) := by decide +kernel
theorem dL_law_330 : decode cL_law 330 = .ok (.iconst 2, 1) := by decide +kernel
theorem dL_law_331 : decode cL_law 331 = .ok (.iadd, 1) := by decide +kernel
theorem dL_law_332 : decode cL_law 332 = .ok (.iaload, 1) := by decide +kernel
theorem dL_law_333 : decode cL_law 333 = .ok (.ifCond .eq 7, 3) := by decide +kernel
theorem dL_law_336 : decode cL_law 336 = .ok (.iconst 1, 1) := by decide +kernel
theorem dL_law_337 : decode cL_law 337 = .ok (.goto 4, 3) := by decide +kernel
theorem dL_law_340 : decode cL_law 340 = .ok (.iconst 0, 1) := by decide +kernel
theorem dL_law_341 : decode cL_law 341 = .ok (.invokevirtual 27, 3) := by decide +kernel
theorem dL_law_344 : decode cL_law 344 = .ok (.if_icmp .eq 996, 3) := by decide +kernel
theorem dL_law_349 : decode cL_law 349 = .ok (.aload_n 1, 1) := by decide +kernel
theorem dL_law_350 : decode cL_law 350 = .ok (.aload_n 0, 1) := by decide +kernel
theorem dL_law_351 : decode cL_law 351 = .ok (.iload_n 3, 1) := by decide +kernel
theorem dL_law_352 : decode cL_law 352 = .ok (.iconst 1, 1) := by decide +kernel
theorem dL_law_353 : decode cL_law 353 = .ok (.iadd, 1) := by decide +kernel
theorem dL_law_354 : decode cL_law 354 = .ok (.iaload, 1) := by decide +kernel
theorem dL_law_355 : decode cL_law 355 = .ok (.aload_n 0, 1) := by decide +kernel
theorem dL_law_356 : decode cL_law 356 = .ok (.iload_n 3, 1) := by decide +kernel
theorem dL_law_357 : decode cL_law 357 = .ok (.iconst 2, 1) := by decide +kernel
theorem dL_law_358 : decode cL_law 358 = .ok (.iadd, 1) := by decide +kernel
theorem dL_law_359 : decode cL_law 359 = .ok (.iaload, 1) := by decide +kernel
theorem dL_law_360 : decode cL_law 360 = .ok (.aload_n 0, 1) := by decide +kernel
theorem dL_law_361 : decode cL_law 361 = .ok (.iload_n 3, 1) := by decide +kernel
theorem dL_law_362 : decode cL_law 362 = .ok (.iconst 3, 1) := by decide +kernel
theorem dL_law_363 : decode cL_law 363 = .ok (.iadd, 1) := by decide +kernel
theorem dL_law_364 : decode cL_law 364 = .ok (.iaload, 1) := by decide +kernel
theorem dL_law_365 : decode cL_law 365 = .ok (.invokevirtual 28, 3) := by decide +kernel
theorem dL_law_368 : decode cL_law 368 = .ok (.aload_n 2, 1) := by decide +kernel
theorem dL_law_369 : decode cL_law 369 = .ok (.aload_n 0, 1) := by decide +kernel
theorem dL_law_370 : decode cL_law 370 = .ok (.iload_n 3, 1) := by decide +kernel
theorem dL_law_371 : decode cL_law 371 = .ok (.iconst 1, 1) := by decide +kernel
theorem dL_law_372 : decode cL_law 372 = .ok (.iadd, 1) := by decide +kernel
theorem dL_law_373 : decode cL_law 373 = .ok (.iaload, 1) := by decide +kernel
theorem dL_law_374 : decode cL_law 374 = .ok (.aload_n 0, 1) := by decide +kernel
theorem dL_law_375 : decode cL_law 375 = .ok (.iload_n 3, 1) := by decide +kernel
theorem dL_law_376 : decode cL_law 376 = .ok (.iconst 2, 1) := by decide +kernel
theorem dL_law_377 : decode cL_law 377 = .ok (.iadd, 1) := by decide +kernel
theorem dL_law_378 : decode cL_law 378 = .ok (.iaload, 1) := by decide +kernel
theorem dL_law_379 : decode cL_law 379 = .ok (.aload_n 0, 1) := by decide +kernel
theorem dL_law_380 : decode cL_law 380 = .ok (.iload_n 3, 1) := by decide +kernel
theorem dL_law_381 : decode cL_law 381 = .ok (.iconst 3, 1) := by decide +kernel
theorem dL_law_382 : decode cL_law 382 = .ok (.iadd, 1) := by decide +kernel
theorem dL_law_383 : decode cL_law 383 = .ok (.iaload, 1) := by decide +kernel
theorem dL_law_384 : decode cL_law 384 = .ok (.invokevirtual 32, 3) := by decide +kernel
theorem dL_law_387 : decode cL_law 387 = .ok (.if_icmp .eq 953, 3) := by decide +kernel
theorem dL_law_392 : decode cL_law 392 = .ok (.aload_n 1, 1) := by decide +kernel
theorem dL_law_393 : decode cL_law 393 = .ok (.aload_n 0, 1) := by decide +kernel
theorem dL_law_394 : decode cL_law 394 = .ok (.iload_n 3, 1) := by decide +kernel
theorem dL_law_395 : decode cL_law 395 = .ok (.iconst 1, 1) := by decide +kernel
theorem dL_law_396 : decode cL_law 396 = .ok (.iadd, 1) := by decide +kernel
theorem dL_law_397 : decode cL_law 397 = .ok (.iaload, 1) := by decide +kernel
theorem dL_law_398 : decode cL_law 398 = .ok (.aload_n 0, 1) := by decide +kernel
theorem dL_law_399 : decode cL_law 399 = .ok (.iload_n 3, 1) := by decide +kernel
theorem dL_law_400 : decode cL_law 400 = .ok (.iconst 2, 1) := by decide +kernel
theorem dL_law_401 : decode cL_law 401 = .ok (.iadd, 1) := by decide +kernel
theorem dL_law_402 : decode cL_law 402 = .ok (.iaload, 1) := by decide +kernel
theorem dL_law_403 : decode cL_law 403 = .ok (.invokevirtual 33, 3) := by decide +kernel
theorem dL_law_406 : decode cL_law 406 = .ok (.aload_n 2, 1) := by decide +kernel
theorem dL_law_407 : decode cL_law 407 = .ok (.aload_n 0, 1) := by decide +kernel
theorem dL_law_408 : decode cL_law 408 = .ok (.iload_n 3, 1) := by decide +kernel
theorem dL_law_409 : decode cL_law 409 = .ok (.iconst 1, 1) := by decide +kernel
theorem dL_law_410 : decode cL_law 410 = .ok (.iadd, 1) := by decide +kernel
theorem dL_law_411 : decode cL_law 411 = .ok (.iaload, 1) := by decide +kernel
theorem dL_law_412 : decode cL_law 412 = .ok (.aload_n 0, 1) := by decide +kernel
theorem dL_law_413 : decode cL_law 413 = .ok (.iload_n 3, 1) := by decide +kernel
theorem dL_law_414 : decode cL_law 414 = .ok (.iconst 2, 1) := by decide +kernel
theorem dL_law_415 : decode cL_law 415 = .ok (.iadd, 1) := by decide +kernel
theorem dL_law_416 : decode cL_law 416 = .ok (.iaload, 1) := by decide +kernel
theorem dL_law_417 : decode cL_law 417 = .ok (.invokevirtual 36, 3) := by decide +kernel
theorem dL_law_420 : decode cL_law 420 = .ok (.if_icmp .eq 920, 3) := by decide +kernel
theorem dL_law_425 : decode cL_law 425 = .ok (.aload_n 1, 1) := by decide +kernel
theorem dL_law_426 : decode cL_law 426 = .ok (.aload_n 0, 1) := by decide +kernel
theorem dL_law_427 : decode cL_law 427 = .ok (.iload_n 3, 1) := by decide +kernel
theorem dL_law_428 : decode cL_law 428 = .ok (.iconst 1, 1) := by decide +kernel
theorem dL_law_429 : decode cL_law 429 = .ok (.iadd, 1) := by decide +kernel
theorem dL_law_430 : decode cL_law 430 = .ok (.iaload, 1) := by decide +kernel
theorem dL_law_431 : decode cL_law 431 = .ok (.aload_n 0, 1) := by decide +kernel
theorem dL_law_432 : decode cL_law 432 = .ok (.iload_n 3, 1) := by decide +kernel
theorem dL_law_433 : decode cL_law 433 = .ok (.iconst 2, 1) := by decide +kernel
theorem dL_law_434 : decode cL_law 434 = .ok (.iadd, 1) := by decide +kernel
theorem dL_law_435 : decode cL_law 435 = .ok (.iaload, 1) := by decide +kernel
theorem dL_law_436 : decode cL_law 436 = .ok (.invokevirtual 37, 3) := by decide +kernel
theorem dL_law_439 : decode cL_law 439 = .ok (.aload_n 2, 1) := by decide +kernel
theorem dL_law_440 : decode cL_law 440 = .ok (.aload_n 0, 1) := by decide +kernel
theorem dL_law_441 : decode cL_law 441 = .ok (.iload_n 3, 1) := by decide +kernel
theorem dL_law_442 : decode cL_law 442 = .ok (.iconst 1, 1) := by decide +kernel
theorem dL_law_443 : decode cL_law 443 = .ok (.iadd, 1) := by decide +kernel
theorem dL_law_444 : decode cL_law 444 = .ok (.iaload, 1) := by decide +kernel
theorem dL_law_445 : decode cL_law 445 = .ok (.aload_n 0, 1) := by decide +kernel
theorem dL_law_446 : decode cL_law 446 = .ok (.iload_n 3, 1) := by decide +kernel
theorem dL_law_447 : decode cL_law 447 = .ok (.iconst 2, 1) := by decide +kernel
theorem dL_law_448 : decode cL_law 448 = .ok (.iadd, 1) := by decide +kernel
theorem dL_law_449 : decode cL_law 449 = .ok (.iaload, 1) := by decide +kernel
theorem dL_law_450 : decode cL_law 450 = .ok (.invokevirtual 40, 3) := by decide +kernel
theorem dL_law_453 : decode cL_law 453 = .ok (.if_icmp .eq 887, 3) := by decide +kernel
theorem dL_law_458 : decode cL_law 458 = .ok (.aload_n 1, 1) := by decide +kernel
theorem dL_law_459 : decode cL_law 459 = .ok (.aload_n 0, 1) := by decide +kernel
theorem dL_law_460 : decode cL_law 460 = .ok (.iload_n 3, 1) := by decide +kernel
theorem dL_law_461 : decode cL_law 461 = .ok (.iconst 1, 1) := by decide +kernel
theorem dL_law_462 : decode cL_law 462 = .ok (.iadd, 1) := by decide +kernel
theorem dL_law_463 : decode cL_law 463 = .ok (.iaload, 1) := by decide +kernel
theorem dL_law_464 : decode cL_law 464 = .ok (.invokevirtual 41, 3) := by decide +kernel
theorem dL_law_467 : decode cL_law 467 = .ok (.aload_n 2, 1) := by decide +kernel
theorem dL_law_468 : decode cL_law 468 = .ok (.aload_n 0, 1) := by decide +kernel
theorem dL_law_469 : decode cL_law 469 = .ok (.iload_n 3, 1) := by decide +kernel
theorem dL_law_470 : decode cL_law 470 = .ok (.iconst 1, 1) := by decide +kernel
theorem dL_law_471 : decode cL_law 471 = .ok (.iadd, 1) := by decide +kernel
theorem dL_law_472 : decode cL_law 472 = .ok (.iaload, 1) := by decide +kernel
theorem dL_law_473 : decode cL_law 473 = .ok (.invokevirtual 45, 3) := by decide +kernel
theorem dL_law_476 : decode cL_law 476 = .ok (.if_icmp .eq 864, 3) := by decide +kernel
theorem dL_law_481 : decode cL_law 481 = .ok (.aload_n 1, 1) := by decide +kernel
theorem dL_law_482 : decode cL_law 482 = .ok (.invokevirtual 46, 3) := by decide +kernel
theorem dL_law_485 : decode cL_law 485 = .ok (.aload_n 2, 1) := by decide +kernel
theorem dL_law_486 : decode cL_law 486 = .ok (.invokevirtual 50, 3) := by decide +kernel
theorem dL_law_489 : decode cL_law 489 = .ok (.if_icmp .eq 851, 3) := by decide +kernel
theorem dL_law_494 : decode cL_law 494 = .ok (.aload_n 1, 1) := by decide +kernel
theorem dL_law_495 : decode cL_law 495 = .ok (.aload_n 0, 1) := by decide +kernel
theorem dL_law_496 : decode cL_law 496 = .ok (.iload_n 3, 1) := by decide +kernel
theorem dL_law_497 : decode cL_law 497 = .ok (.iconst 1, 1) := by decide +kernel
theorem dL_law_498 : decode cL_law 498 = .ok (.iadd, 1) := by decide +kernel
theorem dL_law_499 : decode cL_law 499 = .ok (.iaload, 1) := by decide +kernel
theorem dL_law_500 : decode cL_law 500 = .ok (.invokevirtual 51, 3) := by decide +kernel
theorem dL_law_503 : decode cL_law 503 = .ok (.aload_n 2, 1) := by decide +kernel
theorem dL_law_504 : decode cL_law 504 = .ok (.aload_n 0, 1) := by decide +kernel
theorem dL_law_505 : decode cL_law 505 = .ok (.iload_n 3, 1) := by decide +kernel
theorem dL_law_506 : decode cL_law 506 = .ok (.iconst 1, 1) := by decide +kernel
theorem dL_law_507 : decode cL_law 507 = .ok (.iadd, 1) := by decide +kernel
theorem dL_law_508 : decode cL_law 508 = .ok (.iaload, 1) := by decide +kernel
theorem dL_law_509 : decode cL_law 509 = .ok (.invokevirtual 54, 3) := by decide +kernel
theorem dL_law_512 : decode cL_law 512 = .ok (.if_icmp .eq 828, 3) := by decide +kernel
set_option maxHeartbeats 8000000 in
set_option maxRecDepth 100000 in
theorem zl_case_0 {p : Program} {e : Env} {s : State} {m : MethodId} {below : List Frame} {meth : Method} {c : Code} (l : Launch) {b : Nat} {xs : Nat → Int32} (C0 : lw_At p s m meth c b 6 xs) (D : va_G) (y : Nat → ClassId) (a0 : Nat) (a1 : Nat) (w2 : Value) (w3 : Value) (w4 : Value) (a5 : Nat) (w6 : Value) (w7 : Value) (a8 : Nat) (w9 : Value) (w10 : Value) (w11 : Value) (w12 : Value) (w13 : Value) (w14 : Value) (w15 : Value) (w16 : Value) (a17 : Nat) (a18 : Nat) (a19 : Nat) (a20 : Nat) (a21 : Nat) (a22 : Nat) (a23 : Nat) (w24 : Value) (w25 : Value) (w26 : Value) (w27 : Value) (w28 : Value) (w29 : Value) (w30 : Value) (w31 : Value) (w32 : Value) (w33 : Value) (w34 : Value) (w35 : Value) (w36 : Value) (w37 : Value) (w38 : Value) (w39 : Value) (w40 : Value) (w41 : Value) (w42 : Value) (w43 : Value) (w44 : Value) (w45 : Value) (w46 : Value) (w47 : Value) (w48 : Value) (w49 : Value) (w50 : Value) (w51 : Value) (w52 : Value) (w53 : Value) (w54 : Value) (w55 : Value) (w56 : Value) (w57 : Value) (w58 : Value) (w59 : Value) (w60 : Value) (w61 : Value) (w62 : Value) (w63 : Value) (w64 : Value) (w65 : Value) (w66 : Value) (w67 : Value) (w68 : Value) (w69 : Value) (w70 : Value) (w71 : Value) (w72 : Value) (w73 : Value) (w74 : Value) (w75 : Value) (w76 : Value) (w77 : Value) (w78 : Value) (w79 : Value) (w80 : Value) (w81 : Value) (w82 : Value) (w83 : Value) (w84 : Value) (w85 : Value) (a86 : Nat) (w87 : Value) (w88 : Value) (w89 : Value) (w90 : Value) (w91 : Value) (w92 : Value) (w93 : Value) (w94 : Value) (w95 : Value) (w96 : Value) (w97 : Value) (w98 : Value) (w99 : Value) (w100 : Value) (w101 : Value) (w102 : Value) (w103 : Value) (w104 : Value) (a105 : Nat) (a106 : Nat) (a107 : Nat) (a108 : Nat) (a109 : Nat) (a110 : Nat) (a111 : Nat) (a112 : Nat) (a113 : Nat) (hK : zK D y s) (hE : zE y (fun q : Nat => s.heap.size ≤ q) s s.heap) {H : Heap} {locs : List Loc} {ls : Array Slot} (hS : va_S (fun q : Nat => s.heap.size ≤ q) s.heap H locs) (hW : zPD D (fun q : Nat => s.heap.size ≤ q) [(a0, .inr (8, [w2, w3, w4, .ref a5, w6, w7, .ref a8, w9, w10])), (a1, .inr (9, [.int 0, w11, w12, w13, w14, w15, w16, .ref a17, .ref a18, .ref a19, .ref a20, .ref a21, .ref a22, .ref a23, w24, w25, w26, w27, w28, w29, w30, w31, w32, w33, w34, w35, w36, w37, w38, w39, w40, w41, w42, w43, w44, w45, w46, w47, w48, w49, w50, w51, w52, w53, w54, w55, w56, w57, w58, w59, w60, w61, w62, w63, w64, w65, w66, w67, w68, w69, w70, w71, w72, w73, w74, w75, w76, w77, w78, w79, w80, w81, w82, w83, w84, w85])), (a5, .inr (6, [.ref a86, .int 0, w87, w88, w89, w90, w91, w92, w93, w94, w95, w96])), (a8, .inr (1, [w97, w98, w99, w100, w101, w102, w103, w104, .ref a105])), (a17, .inl (y 0, 7, .inl (fun _ => 0))), (a18, .inl (y 0, 7, .inl (fun _ => 0))), (a19, .inl (y 0, 7, .inl (fun _ => 0))), (a20, .inl (y 0, 7, .inl (fun _ => 0))), (a21, .inl (y 0, 7, .inl (fun _ => 0))), (a22, .inl (y 0, 28, .inl (fun _ => 0))), (a23, .inl (y 2, 7, .inl (fun _ => 0))), (a86, .inl (y 4, 7, .inr (.inr (.inr (.inr (va_up (va_up (va_up (va_up (va_up (va_up (va_up (fun _ => none) 0 (some a106)) 1 (some a107)) 2 (some a108)) 3 (some a109)) 4 (some a110)) 5 (some a111)) 6 (some a112))))))), (a105, .inl (y 2, 4, .inl (fun _ => 0))), (a106, .inr (3, [.int 0, .int 0, .int 0, .int 0, .int 1, .int 0, .ref a113])), (a113, .inl (y 0, 4, .inl (fun _ => 0)))] H) (hl : lv_has ls 4 [(3, .int 0), (2, .ref a1), (1, .ref a0), (0, .ref b)]) : W p l e room_1 s m #[Value.ref b] below meth c H locs 1000 20000 (lw_Z below #[Value.ref b] s) (F0 m 204 ls []) := by
  obtain ⟨hx, hb, hr, hml, hown, hts, hX, hbl, hlocks, hgv⟩ := id C0
  have ht : ∀ w ∈ zT, w.before #[Value.ref b] s = true := fun w h => hts w (zgin w h).1
  have hown : s.vm.findClass RL = some m.cls := hown
  have hA : ∀ q : Nat, s.heap.size ≤ q → (fun q : Nat => s.heap.size ≤ q) q := fun _ h => h
  have hbA : ¬ (fun q : Nat => s.heap.size ≤ q) b := Nat.not_le.mpr hbl
  refine lv_aload_n hx hb dL_law_204 rfl (lv_at hl 2 rfl) ?_
  refine lv_aload_n hx hb dL_law_205 rfl (lv_at hl 3 rfl) ?_
  refine lv_iload_n hx hb dL_law_206 rfl (lv_at hl 0 rfl) ?_
  refine lv_iconst (v := 1) hx hb dL_law_207 (by decide) ?_
  refine lv_iadd hx hb dL_law_208 ?_
  refine ztop (w := .int 1) (congrArg Value.int (by decide)) ?_
  refine va_sld hx hb hX hbl hbA hS (by unfold vp_in; decide) dL_law_209 ?_
  refine ztop (w := .int (xs 1)) rfl ?_
  refine lv_aload_n hx hb dL_law_210 rfl (lv_at hl 3 rfl) ?_
  refine lv_iload_n hx hb dL_law_211 rfl (lv_at hl 0 rfl) ?_
  refine lv_iconst (v := 2) hx hb dL_law_212 (by decide) ?_
  refine lv_iadd hx hb dL_law_213 ?_
  refine ztop (w := .int 2) (congrArg Value.int (by decide)) ?_
  refine va_sld hx hb hX hbl hbA hS (by unfold vp_in; decide) dL_law_214 ?_
  refine ztop (w := .int (xs 2)) rfl ?_
  refine lv_aload_n hx hb dL_law_215 rfl (lv_at hl 3 rfl) ?_
  refine lv_iload_n hx hb dL_law_216 rfl (lv_at hl 0 rfl) ?_
  refine lv_iconst (v := 3) hx hb dL_law_217 (by decide) ?_
  refine lv_iadd hx hb dL_law_218 ?_
  refine ztop (w := .int 3) (congrArg Value.int (by decide)) ?_
  refine va_sld hx hb hX hbl hbA hS (by unfold vp_in; decide) dL_law_219 ?_
  refine ztop (w := .int (xs 3)) rfl ?_
  refine lv_aload_n hx hb dL_law_220 rfl (lv_at hl 3 rfl) ?_
  refine lv_iload_n hx hb dL_law_221 rfl (lv_at hl 0 rfl) ?_
  refine lv_iconst (v := 4) hx hb dL_law_222 (by decide) ?_
  refine lv_iadd hx hb dL_law_223 ?_
  refine ztop (w := .int 4) (congrArg Value.int (by decide)) ?_
  refine va_sld hx hb hX hbl hbA hS (by unfold vp_in; decide) dL_law_224 ?_
  refine ztop (w := .int (xs 4)) rfl ?_
  refine lv_aload_n hx hb dL_law_225 rfl (lv_at hl 3 rfl) ?_
  refine lv_iload_n hx hb dL_law_226 rfl (lv_at hl 0 rfl) ?_
  refine lv_iconst (v := 5) hx hb dL_law_227 (by decide) ?_
  refine lv_iadd hx hb dL_law_228 ?_
  refine ztop (w := .int 5) (congrArg Value.int (by decide)) ?_
  refine va_sld hx hb hX hbl hbA hS (by unfold vp_in; decide) dL_law_229 ?_
  refine ztop (w := .int (xs 5)) rfl ?_
  refine zgo_i (wr := [(a1, .inr (9, [.int 0, w11, w12, w13, w14, w15, w16, .ref a17, .ref a18, .ref a19, .ref a20, .ref a21, .ref a22, .ref a23, w24, w25, w26, w27, w28, w29, w30, w31, w32, w33, w34, w35, w36, w37, w38, w39, w40, w41, w42, w43, w44, w45, w46, w47, w48, w49, w50, w51, w52, w53, w54, w55, w56, w57, w58, w59, w60, w61, w62, w63, w64, w65, w66, w67, w68, w69, w70, w71, w72, w73, w74, w75, w76, w77, w78, w79, w80, w81, w82, w83, w84, w85])), (a17, .inl (y 0, 7, .inl (fun _ => 0))), (a18, .inl (y 0, 7, .inl (fun _ => 0))), (a19, .inl (y 0, 7, .inl (fun _ => 0))), (a20, .inl (y 0, 7, .inl (fun _ => 0))), (a21, .inl (y 0, 7, .inl (fun _ => 0))), (a22, .inl (y 0, 28, .inl (fun _ => 0))), (a23, .inl (y 2, 7, .inl (fun _ => 0)))]) (zrunV (As := [.int (xs 1), .int (xs 2), .int (xs 3), .int (xs 4), .int (xs 5)]) (rest := []) ⟨hx, hb, hml, hown, ht⟩ (zc_X9_window_0 l D y a0 (xs 1) (xs 2) (xs 3) (xs 4) (xs 5) w2 w3 w4 a5 w6 w7 a8 w9 w10 a86 w87 w88 w89 w90 w91 w92 w93 w94 w95 w96 w97 w98 w99 w100 w101 w102 w103 w104 a105 a106 a107 a108 a109 a110 a111 a112 a113) (cwV 5 ht (zgV zm_216 zm_217 zm_218 zm_2 zm_219) rfl rfl rfl (by decide +kernel) ⟨(Nat.le_of_ble_eq_true rfl), (Nat.le_of_ble_eq_true rfl)⟩) hK hE hS hA hW [0, 2, 3, 11, 12, 13, 14] (by decide) rfl 0 rfl rfl rfl rfl hl.1 rfl (Nat.le_of_ble_eq_true rfl) dL_law_230 (Nat.le_of_ble_eq_true rfl) (Nat.le_of_ble_eq_true rfl)) hS hA hW [0, 2, 3, 11, 12, 13, 14] [1, 4, 5, 6, 7, 8, 9, 10] rfl rfl (by decide) (by decide) (fun r1_ u H locs hw hW hS => ?_)
  have hW : zPD D _ [(a1, .inr (9, [.int 0, w11, w12, w13, w14, w15, w16, .ref a17, .ref a18, .ref a19, .ref a20, .ref a21, .ref a22, .ref a23, w24, w25, w26, w27, w28, w29, w30, w31, w32, w33, w34, w35, w36, w37, w38, w39, w40, w41, w42, w43, w44, w45, w46, w47, w48, w49, w50, w51, w52, w53, w54, w55, w56, w57, w58, w59, w60, w61, w62, w63, w64, w65, w66, w67, w68, w69, w70, w71, w72, w73, w74, w75, w76, w77, w78, w79, w80, w81, w82, w83, w84, w85])), (a17, .inl (y 0, 7, .inl (fun _ => 0))), (a18, .inl (y 0, 7, .inl (fun _ => 0))), (a19, .inl (y 0, 7, .inl (fun _ => 0))), (a20, .inl (y 0, 7, .inl (fun _ => 0))), (a21, .inl (y 0, 7, .inl (fun _ => 0))), (a22, .inl (y 0, 28, .inl (fun _ => 0))), (a23, .inl (y 2, 7, .inl (fun _ => 0)))] H := hW
  have hw : r1_ = (if (xs 1) < 0 then (-1) else (if 6 < (xs 1) then (-1) else (if (xs 2) < 0 then (-2) else (if 9 < (xs 2) then (-2) else (if (xs 3) < 0 then (-2) else (if 3 < (xs 3) then (-2) else (if (xs 4) < 0 then (-2) else (if 4 < (xs 4) then (-2) else (if (xs 5) < 1 then (-2) else (if 9 < (xs 5) then (-2) else 0)))))))))) := hw
  by_cases c2_ : (xs 1) < 0
  · have b3_ : (-2147483648) ≤ Int32.toInt (xs 1) ∧ Int32.toInt (xs 1) ≤ (-1) := (by have u0 := zbnd (xs 1); have u1 := (zi_lt _ _).mp c2_; have u2 : (0 : Int32).toInt = 0 := (by decide); omega)
    rw [if_pos c2_] at hw
    subst hw
    refine lv_aload_n hx hb dL_law_233 rfl (lv_at hl 1 rfl) ?_
    refine lv_aload_n hx hb dL_law_234 rfl (lv_at hl 3 rfl) ?_
    refine lv_iload_n hx hb dL_law_235 rfl (lv_at hl 0 rfl) ?_
    refine lv_iconst (v := 1) hx hb dL_law_236 (by decide) ?_
    refine lv_iadd hx hb dL_law_237 ?_
    refine ztop (w := .int 1) (congrArg Value.int (by decide)) ?_
    refine va_sld hx hb hX hbl hbA hS (by unfold vp_in; decide) dL_law_238 ?_
    refine ztop (w := .int (xs 1)) rfl ?_
    refine lv_aload_n hx hb dL_law_239 rfl (lv_at hl 3 rfl) ?_
    refine lv_iload_n hx hb dL_law_240 rfl (lv_at hl 0 rfl) ?_
    refine lv_iconst (v := 2) hx hb dL_law_241 (by decide) ?_
    refine lv_iadd hx hb dL_law_242 ?_
    refine ztop (w := .int 2) (congrArg Value.int (by decide)) ?_
    refine va_sld hx hb hX hbl hbA hS (by unfold vp_in; decide) dL_law_243 ?_
    refine ztop (w := .int (xs 2)) rfl ?_
    refine lv_aload_n hx hb dL_law_244 rfl (lv_at hl 3 rfl) ?_
    refine lv_iload_n hx hb dL_law_245 rfl (lv_at hl 0 rfl) ?_
    refine lv_iconst (v := 3) hx hb dL_law_246 (by decide) ?_
    refine lv_iadd hx hb dL_law_247 ?_
    refine ztop (w := .int 3) (congrArg Value.int (by decide)) ?_
    refine va_sld hx hb hX hbl hbA hS (by unfold vp_in; decide) dL_law_248 ?_
    refine ztop (w := .int (xs 3)) rfl ?_
    refine lv_aload_n hx hb dL_law_249 rfl (lv_at hl 3 rfl) ?_
    refine lv_iload_n hx hb dL_law_250 rfl (lv_at hl 0 rfl) ?_
    refine lv_iconst (v := 4) hx hb dL_law_251 (by decide) ?_
    refine lv_iadd hx hb dL_law_252 ?_
    refine ztop (w := .int 4) (congrArg Value.int (by decide)) ?_
    refine va_sld hx hb hX hbl hbA hS (by unfold vp_in; decide) dL_law_253 ?_
    refine ztop (w := .int (xs 4)) rfl ?_
    refine lv_aload_n hx hb dL_law_254 rfl (lv_at hl 3 rfl) ?_
    refine lv_iload_n hx hb dL_law_255 rfl (lv_at hl 0 rfl) ?_
    refine lv_iconst (v := 5) hx hb dL_law_256 (by decide) ?_
    refine lv_iadd hx hb dL_law_257 ?_
    refine ztop (w := .int 5) (congrArg Value.int (by decide)) ?_
    refine va_sld hx hb hX hbl hbA hS (by unfold vp_in; decide) dL_law_258 ?_
    refine ztop (w := .int (xs 5)) rfl ?_
    refine zgo_i (wr := []) (zrunV (As := [.int (xs 1), .int (xs 2), .int (xs 3), .int (xs 4), .int (xs 5)]) (rest := [.int (-1)]) ⟨hx, hb, hml, hown, ht⟩ (zc_X10_window_0 l D y a1 (xs 1) (xs 2) (xs 3) (xs 4) (xs 5) w11 w12 w13 w14 w15 w16 a17 a18 a19 a20 a21 a22 a23 w24 w25 w26 w27 w28 w29 w30 w31 w32 w33 w34 w35 w36 w37 w38 w39 w40 w41 w42 w43 w44 w45 w46 w47 w48 w49 w50 w51 w52 w53 w54 w55 w56 w57 w58 w59 w60 w61 w62 w63 w64 w65 w66 w67 w68 w69 w70 w71 w72 w73 w74 w75 w76 w77 w78 w79 w80 w81 w82 w83 w84 w85) (cwV 5 ht (zgV zm_236 zm_237 zm_238 zm_5 zm_239) rfl rfl rfl (by decide +kernel) ⟨(Nat.le_of_ble_eq_true rfl), (Nat.le_of_ble_eq_true rfl)⟩) hK hE hS hA hW [0, 1, 2, 3, 4, 5, 6, 7] (by decide) rfl 0 rfl rfl rfl rfl hl.1 rfl (Nat.le_of_ble_eq_true rfl) dL_law_259 (Nat.le_of_ble_eq_true rfl) (Nat.le_of_ble_eq_true rfl)) hS hA hW [0, 1, 2, 3, 4, 5, 6, 7] [] rfl rfl (by decide) (by decide) (fun r4_ u H locs hw hW hS => ?_)
    have hW : zPD D _ [] H := hW
    have hw : r4_ = (if (xs 1) < 0 then (-1) else (if 6 < (xs 1) then (-1) else (if (xs 2) < 0 then (-2) else (if 9 < (xs 2) then (-2) else (if (xs 3) < 0 then (-2) else (if 3 < (xs 3) then (-2) else (if (xs 4) < 0 then (-2) else (if 4 < (xs 4) then (-2) else (if (xs 5) < 1 then (-2) else (if 9 < (xs 5) then (-2) else 0)))))))))) := hw
    rw [if_pos c2_] at hw
    subst hw
    refine lv_icmp_eq (tgt := 1340) hx hb dL_law_262 (by decide) (fun c5_ => ?_) (fun c5_ => absurd (by decide) c5_)
    exact zl_end l C0 hS (lv_sub hl [0, 3] rfl)
  · have b6_ : 0 ≤ Int32.toInt (xs 1) ∧ Int32.toInt (xs 1) ≤ 2147483647 := (by have u0 := zbnd (xs 1); have u1 := (not_congr (zi_lt _ _)).mp c2_; have u2 : (0 : Int32).toInt = 0 := (by decide); omega)
    rw [if_neg c2_] at hw
    by_cases c7_ : 6 < (xs 1)
    · have b8_ : 7 ≤ Int32.toInt (xs 1) ∧ Int32.toInt (xs 1) ≤ 2147483647 := (by have u0 := b6_; have u1 := (zi_lt _ _).mp c7_; have u2 : (6 : Int32).toInt = 6 := (by decide); omega)
      rw [if_pos c7_] at hw
      subst hw
      refine lv_aload_n hx hb dL_law_233 rfl (lv_at hl 1 rfl) ?_
      refine lv_aload_n hx hb dL_law_234 rfl (lv_at hl 3 rfl) ?_
      refine lv_iload_n hx hb dL_law_235 rfl (lv_at hl 0 rfl) ?_
      refine lv_iconst (v := 1) hx hb dL_law_236 (by decide) ?_
      refine lv_iadd hx hb dL_law_237 ?_
      refine ztop (w := .int 1) (congrArg Value.int (by decide)) ?_
      refine va_sld hx hb hX hbl hbA hS (by unfold vp_in; decide) dL_law_238 ?_
      refine ztop (w := .int (xs 1)) rfl ?_
      refine lv_aload_n hx hb dL_law_239 rfl (lv_at hl 3 rfl) ?_
      refine lv_iload_n hx hb dL_law_240 rfl (lv_at hl 0 rfl) ?_
      refine lv_iconst (v := 2) hx hb dL_law_241 (by decide) ?_
      refine lv_iadd hx hb dL_law_242 ?_
      refine ztop (w := .int 2) (congrArg Value.int (by decide)) ?_
      refine va_sld hx hb hX hbl hbA hS (by unfold vp_in; decide) dL_law_243 ?_
      refine ztop (w := .int (xs 2)) rfl ?_
      refine lv_aload_n hx hb dL_law_244 rfl (lv_at hl 3 rfl) ?_
      refine lv_iload_n hx hb dL_law_245 rfl (lv_at hl 0 rfl) ?_
      refine lv_iconst (v := 3) hx hb dL_law_246 (by decide) ?_
      refine lv_iadd hx hb dL_law_247 ?_
      refine ztop (w := .int 3) (congrArg Value.int (by decide)) ?_
      refine va_sld hx hb hX hbl hbA hS (by unfold vp_in; decide) dL_law_248 ?_
      refine ztop (w := .int (xs 3)) rfl ?_
      refine lv_aload_n hx hb dL_law_249 rfl (lv_at hl 3 rfl) ?_
      refine lv_iload_n hx hb dL_law_250 rfl (lv_at hl 0 rfl) ?_
      refine lv_iconst (v := 4) hx hb dL_law_251 (by decide) ?_
      refine lv_iadd hx hb dL_law_252 ?_
      refine ztop (w := .int 4) (congrArg Value.int (by decide)) ?_
      refine va_sld hx hb hX hbl hbA hS (by unfold vp_in; decide) dL_law_253 ?_
      refine ztop (w := .int (xs 4)) rfl ?_
      refine lv_aload_n hx hb dL_law_254 rfl (lv_at hl 3 rfl) ?_
      refine lv_iload_n hx hb dL_law_255 rfl (lv_at hl 0 rfl) ?_
      refine lv_iconst (v := 5) hx hb dL_law_256 (by decide) ?_
      refine lv_iadd hx hb dL_law_257 ?_
      refine ztop (w := .int 5) (congrArg Value.int (by decide)) ?_
      refine va_sld hx hb hX hbl hbA hS (by unfold vp_in; decide) dL_law_258 ?_
      refine ztop (w := .int (xs 5)) rfl ?_
      refine zgo_i (wr := []) (zrunV (As := [.int (xs 1), .int (xs 2), .int (xs 3), .int (xs 4), .int (xs 5)]) (rest := [.int (-1)]) ⟨hx, hb, hml, hown, ht⟩ (zc_X10_window_0 l D y a1 (xs 1) (xs 2) (xs 3) (xs 4) (xs 5) w11 w12 w13 w14 w15 w16 a17 a18 a19 a20 a21 a22 a23 w24 w25 w26 w27 w28 w29 w30 w31 w32 w33 w34 w35 w36 w37 w38 w39 w40 w41 w42 w43 w44 w45 w46 w47 w48 w49 w50 w51 w52 w53 w54 w55 w56 w57 w58 w59 w60 w61 w62 w63 w64 w65 w66 w67 w68 w69 w70 w71 w72 w73 w74 w75 w76 w77 w78 w79 w80 w81 w82 w83 w84 w85) (cwV 5 ht (zgV zm_236 zm_237 zm_238 zm_5 zm_239) rfl rfl rfl (by decide +kernel) ⟨(Nat.le_of_ble_eq_true rfl), (Nat.le_of_ble_eq_true rfl)⟩) hK hE hS hA hW [0, 1, 2, 3, 4, 5, 6, 7] (by decide) rfl 0 rfl rfl rfl rfl hl.1 rfl (Nat.le_of_ble_eq_true rfl) dL_law_259 (Nat.le_of_ble_eq_true rfl) (Nat.le_of_ble_eq_true rfl)) hS hA hW [0, 1, 2, 3, 4, 5, 6, 7] [] rfl rfl (by decide) (by decide) (fun r9_ u H locs hw hW hS => ?_)
      have hW : zPD D _ [] H := hW
      have hw : r9_ = (if (xs 1) < 0 then (-1) else (if 6 < (xs 1) then (-1) else (if (xs 2) < 0 then (-2) else (if 9 < (xs 2) then (-2) else (if (xs 3) < 0 then (-2) else (if 3 < (xs 3) then (-2) else (if (xs 4) < 0 then (-2) else (if 4 < (xs 4) then (-2) else (if (xs 5) < 1 then (-2) else (if 9 < (xs 5) then (-2) else 0)))))))))) := hw
      rw [if_neg c2_] at hw
      rw [if_pos c7_] at hw
      subst hw
      refine lv_icmp_eq (tgt := 1340) hx hb dL_law_262 (by decide) (fun c10_ => ?_) (fun c10_ => absurd (by decide) c10_)
      exact zl_end l C0 hS (lv_sub hl [0, 3] rfl)
    · have b11_ : 0 ≤ Int32.toInt (xs 1) ∧ Int32.toInt (xs 1) ≤ 6 := (by have u0 := b6_; have u1 := (not_congr (zi_lt _ _)).mp c7_; have u2 : (6 : Int32).toInt = 6 := (by decide); omega)
      rw [if_neg c7_] at hw
      by_cases c12_ : (xs 2) < 0
      · have b13_ : (-2147483648) ≤ Int32.toInt (xs 2) ∧ Int32.toInt (xs 2) ≤ (-1) := (by have u0 := zbnd (xs 2); have u1 := (zi_lt _ _).mp c12_; have u2 : (0 : Int32).toInt = 0 := (by decide); omega)
        rw [if_pos c12_] at hw
        subst hw
        refine lv_aload_n hx hb dL_law_233 rfl (lv_at hl 1 rfl) ?_
        refine lv_aload_n hx hb dL_law_234 rfl (lv_at hl 3 rfl) ?_
        refine lv_iload_n hx hb dL_law_235 rfl (lv_at hl 0 rfl) ?_
        refine lv_iconst (v := 1) hx hb dL_law_236 (by decide) ?_
        refine lv_iadd hx hb dL_law_237 ?_
        refine ztop (w := .int 1) (congrArg Value.int (by decide)) ?_
        refine va_sld hx hb hX hbl hbA hS (by unfold vp_in; decide) dL_law_238 ?_
        refine ztop (w := .int (xs 1)) rfl ?_
        refine lv_aload_n hx hb dL_law_239 rfl (lv_at hl 3 rfl) ?_
        refine lv_iload_n hx hb dL_law_240 rfl (lv_at hl 0 rfl) ?_
        refine lv_iconst (v := 2) hx hb dL_law_241 (by decide) ?_
        refine lv_iadd hx hb dL_law_242 ?_
        refine ztop (w := .int 2) (congrArg Value.int (by decide)) ?_
        refine va_sld hx hb hX hbl hbA hS (by unfold vp_in; decide) dL_law_243 ?_
        refine ztop (w := .int (xs 2)) rfl ?_
        refine lv_aload_n hx hb dL_law_244 rfl (lv_at hl 3 rfl) ?_
        refine lv_iload_n hx hb dL_law_245 rfl (lv_at hl 0 rfl) ?_
        refine lv_iconst (v := 3) hx hb dL_law_246 (by decide) ?_
        refine lv_iadd hx hb dL_law_247 ?_
        refine ztop (w := .int 3) (congrArg Value.int (by decide)) ?_
        refine va_sld hx hb hX hbl hbA hS (by unfold vp_in; decide) dL_law_248 ?_
        refine ztop (w := .int (xs 3)) rfl ?_
        refine lv_aload_n hx hb dL_law_249 rfl (lv_at hl 3 rfl) ?_
        refine lv_iload_n hx hb dL_law_250 rfl (lv_at hl 0 rfl) ?_
        refine lv_iconst (v := 4) hx hb dL_law_251 (by decide) ?_
        refine lv_iadd hx hb dL_law_252 ?_
        refine ztop (w := .int 4) (congrArg Value.int (by decide)) ?_
        refine va_sld hx hb hX hbl hbA hS (by unfold vp_in; decide) dL_law_253 ?_
        refine ztop (w := .int (xs 4)) rfl ?_
        refine lv_aload_n hx hb dL_law_254 rfl (lv_at hl 3 rfl) ?_
        refine lv_iload_n hx hb dL_law_255 rfl (lv_at hl 0 rfl) ?_
        refine lv_iconst (v := 5) hx hb dL_law_256 (by decide) ?_
        refine lv_iadd hx hb dL_law_257 ?_
        refine ztop (w := .int 5) (congrArg Value.int (by decide)) ?_
        refine va_sld hx hb hX hbl hbA hS (by unfold vp_in; decide) dL_law_258 ?_
        refine ztop (w := .int (xs 5)) rfl ?_
        refine zgo_i (wr := []) (zrunV (As := [.int (xs 1), .int (xs 2), .int (xs 3), .int (xs 4), .int (xs 5)]) (rest := [.int (-2)]) ⟨hx, hb, hml, hown, ht⟩ (zc_X10_window_0 l D y a1 (xs 1) (xs 2) (xs 3) (xs 4) (xs 5) w11 w12 w13 w14 w15 w16 a17 a18 a19 a20 a21 a22 a23 w24 w25 w26 w27 w28 w29 w30 w31 w32 w33 w34 w35 w36 w37 w38 w39 w40 w41 w42 w43 w44 w45 w46 w47 w48 w49 w50 w51 w52 w53 w54 w55 w56 w57 w58 w59 w60 w61 w62 w63 w64 w65 w66 w67 w68 w69 w70 w71 w72 w73 w74 w75 w76 w77 w78 w79 w80 w81 w82 w83 w84 w85) (cwV 5 ht (zgV zm_236 zm_237 zm_238 zm_5 zm_239) rfl rfl rfl (by decide +kernel) ⟨(Nat.le_of_ble_eq_true rfl), (Nat.le_of_ble_eq_true rfl)⟩) hK hE hS hA hW [0, 1, 2, 3, 4, 5, 6, 7] (by decide) rfl 0 rfl rfl rfl rfl hl.1 rfl (Nat.le_of_ble_eq_true rfl) dL_law_259 (Nat.le_of_ble_eq_true rfl) (Nat.le_of_ble_eq_true rfl)) hS hA hW [0, 1, 2, 3, 4, 5, 6, 7] [] rfl rfl (by decide) (by decide) (fun r14_ u H locs hw hW hS => ?_)
        have hW : zPD D _ [] H := hW
        have hw : r14_ = (if (xs 1) < 0 then (-1) else (if 6 < (xs 1) then (-1) else (if (xs 2) < 0 then (-2) else (if 9 < (xs 2) then (-2) else (if (xs 3) < 0 then (-2) else (if 3 < (xs 3) then (-2) else (if (xs 4) < 0 then (-2) else (if 4 < (xs 4) then (-2) else (if (xs 5) < 1 then (-2) else (if 9 < (xs 5) then (-2) else 0)))))))))) := hw
        rw [if_neg c2_] at hw
        rw [if_neg c7_] at hw
        rw [if_pos c12_] at hw
        subst hw
        refine lv_icmp_eq (tgt := 1340) hx hb dL_law_262 (by decide) (fun c15_ => ?_) (fun c15_ => absurd (by decide) c15_)
        exact zl_end l C0 hS (lv_sub hl [0, 3] rfl)
      · have b16_ : 0 ≤ Int32.toInt (xs 2) ∧ Int32.toInt (xs 2) ≤ 2147483647 := (by have u0 := zbnd (xs 2); have u1 := (not_congr (zi_lt _ _)).mp c12_; have u2 : (0 : Int32).toInt = 0 := (by decide); omega)
        rw [if_neg c12_] at hw
        by_cases c17_ : 9 < (xs 2)
        · have b18_ : 10 ≤ Int32.toInt (xs 2) ∧ Int32.toInt (xs 2) ≤ 2147483647 := (by have u0 := b16_; have u1 := (zi_lt _ _).mp c17_; have u2 : (9 : Int32).toInt = 9 := (by decide); omega)
          rw [if_pos c17_] at hw
          subst hw
          refine lv_aload_n hx hb dL_law_233 rfl (lv_at hl 1 rfl) ?_
          refine lv_aload_n hx hb dL_law_234 rfl (lv_at hl 3 rfl) ?_
          refine lv_iload_n hx hb dL_law_235 rfl (lv_at hl 0 rfl) ?_
          refine lv_iconst (v := 1) hx hb dL_law_236 (by decide) ?_
          refine lv_iadd hx hb dL_law_237 ?_
          refine ztop (w := .int 1) (congrArg Value.int (by decide)) ?_
          refine va_sld hx hb hX hbl hbA hS (by unfold vp_in; decide) dL_law_238 ?_
          refine ztop (w := .int (xs 1)) rfl ?_
          refine lv_aload_n hx hb dL_law_239 rfl (lv_at hl 3 rfl) ?_
          refine lv_iload_n hx hb dL_law_240 rfl (lv_at hl 0 rfl) ?_
          refine lv_iconst (v := 2) hx hb dL_law_241 (by decide) ?_
          refine lv_iadd hx hb dL_law_242 ?_
          refine ztop (w := .int 2) (congrArg Value.int (by decide)) ?_
          refine va_sld hx hb hX hbl hbA hS (by unfold vp_in; decide) dL_law_243 ?_
          refine ztop (w := .int (xs 2)) rfl ?_
          refine lv_aload_n hx hb dL_law_244 rfl (lv_at hl 3 rfl) ?_
          refine lv_iload_n hx hb dL_law_245 rfl (lv_at hl 0 rfl) ?_
          refine lv_iconst (v := 3) hx hb dL_law_246 (by decide) ?_
          refine lv_iadd hx hb dL_law_247 ?_
          refine ztop (w := .int 3) (congrArg Value.int (by decide)) ?_
          refine va_sld hx hb hX hbl hbA hS (by unfold vp_in; decide) dL_law_248 ?_
          refine ztop (w := .int (xs 3)) rfl ?_
          refine lv_aload_n hx hb dL_law_249 rfl (lv_at hl 3 rfl) ?_
          refine lv_iload_n hx hb dL_law_250 rfl (lv_at hl 0 rfl) ?_
          refine lv_iconst (v := 4) hx hb dL_law_251 (by decide) ?_
          refine lv_iadd hx hb dL_law_252 ?_
          refine ztop (w := .int 4) (congrArg Value.int (by decide)) ?_
          refine va_sld hx hb hX hbl hbA hS (by unfold vp_in; decide) dL_law_253 ?_
          refine ztop (w := .int (xs 4)) rfl ?_
          refine lv_aload_n hx hb dL_law_254 rfl (lv_at hl 3 rfl) ?_
          refine lv_iload_n hx hb dL_law_255 rfl (lv_at hl 0 rfl) ?_
          refine lv_iconst (v := 5) hx hb dL_law_256 (by decide) ?_
          refine lv_iadd hx hb dL_law_257 ?_
          refine ztop (w := .int 5) (congrArg Value.int (by decide)) ?_
          refine va_sld hx hb hX hbl hbA hS (by unfold vp_in; decide) dL_law_258 ?_
          refine ztop (w := .int (xs 5)) rfl ?_
          refine zgo_i (wr := []) (zrunV (As := [.int (xs 1), .int (xs 2), .int (xs 3), .int (xs 4), .int (xs 5)]) (rest := [.int (-2)]) ⟨hx, hb, hml, hown, ht⟩ (zc_X10_window_0 l D y a1 (xs 1) (xs 2) (xs 3) (xs 4) (xs 5) w11 w12 w13 w14 w15 w16 a17 a18 a19 a20 a21 a22 a23 w24 w25 w26 w27 w28 w29 w30 w31 w32 w33 w34 w35 w36 w37 w38 w39 w40 w41 w42 w43 w44 w45 w46 w47 w48 w49 w50 w51 w52 w53 w54 w55 w56 w57 w58 w59 w60 w61 w62 w63 w64 w65 w66 w67 w68 w69 w70 w71 w72 w73 w74 w75 w76 w77 w78 w79 w80 w81 w82 w83 w84 w85) (cwV 5 ht (zgV zm_236 zm_237 zm_238 zm_5 zm_239) rfl rfl rfl (by decide +kernel) ⟨(Nat.le_of_ble_eq_true rfl), (Nat.le_of_ble_eq_true rfl)⟩) hK hE hS hA hW [0, 1, 2, 3, 4, 5, 6, 7] (by decide) rfl 0 rfl rfl rfl rfl hl.1 rfl (Nat.le_of_ble_eq_true rfl) dL_law_259 (Nat.le_of_ble_eq_true rfl) (Nat.le_of_ble_eq_true rfl)) hS hA hW [0, 1, 2, 3, 4, 5, 6, 7] [] rfl rfl (by decide) (by decide) (fun r19_ u H locs hw hW hS => ?_)
          have hW : zPD D _ [] H := hW
          have hw : r19_ = (if (xs 1) < 0 then (-1) else (if 6 < (xs 1) then (-1) else (if (xs 2) < 0 then (-2) else (if 9 < (xs 2) then (-2) else (if (xs 3) < 0 then (-2) else (if 3 < (xs 3) then (-2) else (if (xs 4) < 0 then (-2) else (if 4 < (xs 4) then (-2) else (if (xs 5) < 1 then (-2) else (if 9 < (xs 5) then (-2) else 0)))))))))) := hw
          rw [if_neg c2_] at hw
          rw [if_neg c7_] at hw
          rw [if_neg c12_] at hw
          rw [if_pos c17_] at hw
          subst hw
          refine lv_icmp_eq (tgt := 1340) hx hb dL_law_262 (by decide) (fun c20_ => ?_) (fun c20_ => absurd (by decide) c20_)
          exact zl_end l C0 hS (lv_sub hl [0, 3] rfl)
        · have b21_ : 0 ≤ Int32.toInt (xs 2) ∧ Int32.toInt (xs 2) ≤ 9 := (by have u0 := b16_; have u1 := (not_congr (zi_lt _ _)).mp c17_; have u2 : (9 : Int32).toInt = 9 := (by decide); omega)
          rw [if_neg c17_] at hw
          by_cases c22_ : (xs 3) < 0
          · have b23_ : (-2147483648) ≤ Int32.toInt (xs 3) ∧ Int32.toInt (xs 3) ≤ (-1) := (by have u0 := zbnd (xs 3); have u1 := (zi_lt _ _).mp c22_; have u2 : (0 : Int32).toInt = 0 := (by decide); omega)
            rw [if_pos c22_] at hw
            subst hw
            refine lv_aload_n hx hb dL_law_233 rfl (lv_at hl 1 rfl) ?_
            refine lv_aload_n hx hb dL_law_234 rfl (lv_at hl 3 rfl) ?_
            refine lv_iload_n hx hb dL_law_235 rfl (lv_at hl 0 rfl) ?_
            refine lv_iconst (v := 1) hx hb dL_law_236 (by decide) ?_
            refine lv_iadd hx hb dL_law_237 ?_
            refine ztop (w := .int 1) (congrArg Value.int (by decide)) ?_
            refine va_sld hx hb hX hbl hbA hS (by unfold vp_in; decide) dL_law_238 ?_
            refine ztop (w := .int (xs 1)) rfl ?_
            refine lv_aload_n hx hb dL_law_239 rfl (lv_at hl 3 rfl) ?_
            refine lv_iload_n hx hb dL_law_240 rfl (lv_at hl 0 rfl) ?_
            refine lv_iconst (v := 2) hx hb dL_law_241 (by decide) ?_
            refine lv_iadd hx hb dL_law_242 ?_
            refine ztop (w := .int 2) (congrArg Value.int (by decide)) ?_
            refine va_sld hx hb hX hbl hbA hS (by unfold vp_in; decide) dL_law_243 ?_
            refine ztop (w := .int (xs 2)) rfl ?_
            refine lv_aload_n hx hb dL_law_244 rfl (lv_at hl 3 rfl) ?_
            refine lv_iload_n hx hb dL_law_245 rfl (lv_at hl 0 rfl) ?_
            refine lv_iconst (v := 3) hx hb dL_law_246 (by decide) ?_
            refine lv_iadd hx hb dL_law_247 ?_
            refine ztop (w := .int 3) (congrArg Value.int (by decide)) ?_
            refine va_sld hx hb hX hbl hbA hS (by unfold vp_in; decide) dL_law_248 ?_
            refine ztop (w := .int (xs 3)) rfl ?_
            refine lv_aload_n hx hb dL_law_249 rfl (lv_at hl 3 rfl) ?_
            refine lv_iload_n hx hb dL_law_250 rfl (lv_at hl 0 rfl) ?_
            refine lv_iconst (v := 4) hx hb dL_law_251 (by decide) ?_
            refine lv_iadd hx hb dL_law_252 ?_
            refine ztop (w := .int 4) (congrArg Value.int (by decide)) ?_
            refine va_sld hx hb hX hbl hbA hS (by unfold vp_in; decide) dL_law_253 ?_
            refine ztop (w := .int (xs 4)) rfl ?_
            refine lv_aload_n hx hb dL_law_254 rfl (lv_at hl 3 rfl) ?_
            refine lv_iload_n hx hb dL_law_255 rfl (lv_at hl 0 rfl) ?_
            refine lv_iconst (v := 5) hx hb dL_law_256 (by decide) ?_
            refine lv_iadd hx hb dL_law_257 ?_
            refine ztop (w := .int 5) (congrArg Value.int (by decide)) ?_
            refine va_sld hx hb hX hbl hbA hS (by unfold vp_in; decide) dL_law_258 ?_
            refine ztop (w := .int (xs 5)) rfl ?_
            refine zgo_i (wr := []) (zrunV (As := [.int (xs 1), .int (xs 2), .int (xs 3), .int (xs 4), .int (xs 5)]) (rest := [.int (-2)]) ⟨hx, hb, hml, hown, ht⟩ (zc_X10_window_0 l D y a1 (xs 1) (xs 2) (xs 3) (xs 4) (xs 5) w11 w12 w13 w14 w15 w16 a17 a18 a19 a20 a21 a22 a23 w24 w25 w26 w27 w28 w29 w30 w31 w32 w33 w34 w35 w36 w37 w38 w39 w40 w41 w42 w43 w44 w45 w46 w47 w48 w49 w50 w51 w52 w53 w54 w55 w56 w57 w58 w59 w60 w61 w62 w63 w64 w65 w66 w67 w68 w69 w70 w71 w72 w73 w74 w75 w76 w77 w78 w79 w80 w81 w82 w83 w84 w85) (cwV 5 ht (zgV zm_236 zm_237 zm_238 zm_5 zm_239) rfl rfl rfl (by decide +kernel) ⟨(Nat.le_of_ble_eq_true rfl), (Nat.le_of_ble_eq_true rfl)⟩) hK hE hS hA hW [0, 1, 2, 3, 4, 5, 6, 7] (by decide) rfl 0 rfl rfl rfl rfl hl.1 rfl (Nat.le_of_ble_eq_true rfl) dL_law_259 (Nat.le_of_ble_eq_true rfl) (Nat.le_of_ble_eq_true rfl)) hS hA hW [0, 1, 2, 3, 4, 5, 6, 7] [] rfl rfl (by decide) (by decide) (fun r24_ u H locs hw hW hS => ?_)
            have hW : zPD D _ [] H := hW
            have hw : r24_ = (if (xs 1) < 0 then (-1) else (if 6 < (xs 1) then (-1) else (if (xs 2) < 0 then (-2) else (if 9 < (xs 2) then (-2) else (if (xs 3) < 0 then (-2) else (if 3 < (xs 3) then (-2) else (if (xs 4) < 0 then (-2) else (if 4 < (xs 4) then (-2) else (if (xs 5) < 1 then (-2) else (if 9 < (xs 5) then (-2) else 0)))))))))) := hw
            rw [if_neg c2_] at hw
            rw [if_neg c7_] at hw
            rw [if_neg c12_] at hw
            rw [if_neg c17_] at hw
            rw [if_pos c22_] at hw
            subst hw
            refine lv_icmp_eq (tgt := 1340) hx hb dL_law_262 (by decide) (fun c25_ => ?_) (fun c25_ => absurd (by decide) c25_)
            exact zl_end l C0 hS (lv_sub hl [0, 3] rfl)
          · have b26_ : 0 ≤ Int32.toInt (xs 3) ∧ Int32.toInt (xs 3) ≤ 2147483647 := (by have u0 := zbnd (xs 3); have u1 := (not_congr (zi_lt _ _)).mp c22_; have u2 : (0 : Int32).toInt = 0 := (by decide); omega)
            rw [if_neg c22_] at hw
            by_cases c27_ : 3 < (xs 3)
            · have b28_ : 4 ≤ Int32.toInt (xs 3) ∧ Int32.toInt (xs 3) ≤ 2147483647 := (by have u0 := b26_; have u1 := (zi_lt _ _).mp c27_; have u2 : (3 : Int32).toInt = 3 := (by decide); omega)
              rw [if_pos c27_] at hw
              subst hw
              refine lv_aload_n hx hb dL_law_233 rfl (lv_at hl 1 rfl) ?_
              refine lv_aload_n hx hb dL_law_234 rfl (lv_at hl 3 rfl) ?_
              refine lv_iload_n hx hb dL_law_235 rfl (lv_at hl 0 rfl) ?_
              refine lv_iconst (v := 1) hx hb dL_law_236 (by decide) ?_
              refine lv_iadd hx hb dL_law_237 ?_
              refine ztop (w := .int 1) (congrArg Value.int (by decide)) ?_
              refine va_sld hx hb hX hbl hbA hS (by unfold vp_in; decide) dL_law_238 ?_
              refine ztop (w := .int (xs 1)) rfl ?_
              refine lv_aload_n hx hb dL_law_239 rfl (lv_at hl 3 rfl) ?_
              refine lv_iload_n hx hb dL_law_240 rfl (lv_at hl 0 rfl) ?_
              refine lv_iconst (v := 2) hx hb dL_law_241 (by decide) ?_
              refine lv_iadd hx hb dL_law_242 ?_
              refine ztop (w := .int 2) (congrArg Value.int (by decide)) ?_
              refine va_sld hx hb hX hbl hbA hS (by unfold vp_in; decide) dL_law_243 ?_
              refine ztop (w := .int (xs 2)) rfl ?_
              refine lv_aload_n hx hb dL_law_244 rfl (lv_at hl 3 rfl) ?_
              refine lv_iload_n hx hb dL_law_245 rfl (lv_at hl 0 rfl) ?_
              refine lv_iconst (v := 3) hx hb dL_law_246 (by decide) ?_
              refine lv_iadd hx hb dL_law_247 ?_
              refine ztop (w := .int 3) (congrArg Value.int (by decide)) ?_
              refine va_sld hx hb hX hbl hbA hS (by unfold vp_in; decide) dL_law_248 ?_
              refine ztop (w := .int (xs 3)) rfl ?_
              refine lv_aload_n hx hb dL_law_249 rfl (lv_at hl 3 rfl) ?_
              refine lv_iload_n hx hb dL_law_250 rfl (lv_at hl 0 rfl) ?_
              refine lv_iconst (v := 4) hx hb dL_law_251 (by decide) ?_
              refine lv_iadd hx hb dL_law_252 ?_
              refine ztop (w := .int 4) (congrArg Value.int (by decide)) ?_
              refine va_sld hx hb hX hbl hbA hS (by unfold vp_in; decide) dL_law_253 ?_
              refine ztop (w := .int (xs 4)) rfl ?_
              refine lv_aload_n hx hb dL_law_254 rfl (lv_at hl 3 rfl) ?_
              refine lv_iload_n hx hb dL_law_255 rfl (lv_at hl 0 rfl) ?_
              refine lv_iconst (v := 5) hx hb dL_law_256 (by decide) ?_
              refine lv_iadd hx hb dL_law_257 ?_
              refine ztop (w := .int 5) (congrArg Value.int (by decide)) ?_
              refine va_sld hx hb hX hbl hbA hS (by unfold vp_in; decide) dL_law_258 ?_
              refine ztop (w := .int (xs 5)) rfl ?_
              refine zgo_i (wr := []) (zrunV (As := [.int (xs 1), .int (xs 2), .int (xs 3), .int (xs 4), .int (xs 5)]) (rest := [.int (-2)]) ⟨hx, hb, hml, hown, ht⟩ (zc_X10_window_0 l D y a1 (xs 1) (xs 2) (xs 3) (xs 4) (xs 5) w11 w12 w13 w14 w15 w16 a17 a18 a19 a20 a21 a22 a23 w24 w25 w26 w27 w28 w29 w30 w31 w32 w33 w34 w35 w36 w37 w38 w39 w40 w41 w42 w43 w44 w45 w46 w47 w48 w49 w50 w51 w52 w53 w54 w55 w56 w57 w58 w59 w60 w61 w62 w63 w64 w65 w66 w67 w68 w69 w70 w71 w72 w73 w74 w75 w76 w77 w78 w79 w80 w81 w82 w83 w84 w85) (cwV 5 ht (zgV zm_236 zm_237 zm_238 zm_5 zm_239) rfl rfl rfl (by decide +kernel) ⟨(Nat.le_of_ble_eq_true rfl), (Nat.le_of_ble_eq_true rfl)⟩) hK hE hS hA hW [0, 1, 2, 3, 4, 5, 6, 7] (by decide) rfl 0 rfl rfl rfl rfl hl.1 rfl (Nat.le_of_ble_eq_true rfl) dL_law_259 (Nat.le_of_ble_eq_true rfl) (Nat.le_of_ble_eq_true rfl)) hS hA hW [0, 1, 2, 3, 4, 5, 6, 7] [] rfl rfl (by decide) (by decide) (fun r29_ u H locs hw hW hS => ?_)
              have hW : zPD D _ [] H := hW
              have hw : r29_ = (if (xs 1) < 0 then (-1) else (if 6 < (xs 1) then (-1) else (if (xs 2) < 0 then (-2) else (if 9 < (xs 2) then (-2) else (if (xs 3) < 0 then (-2) else (if 3 < (xs 3) then (-2) else (if (xs 4) < 0 then (-2) else (if 4 < (xs 4) then (-2) else (if (xs 5) < 1 then (-2) else (if 9 < (xs 5) then (-2) else 0)))))))))) := hw
              rw [if_neg c2_] at hw
              rw [if_neg c7_] at hw
              rw [if_neg c12_] at hw
              rw [if_neg c17_] at hw
              rw [if_neg c22_] at hw
              rw [if_pos c27_] at hw
              subst hw
              refine lv_icmp_eq (tgt := 1340) hx hb dL_law_262 (by decide) (fun c30_ => ?_) (fun c30_ => absurd (by decide) c30_)
              exact zl_end l C0 hS (lv_sub hl [0, 3] rfl)
            · have b31_ : 0 ≤ Int32.toInt (xs 3) ∧ Int32.toInt (xs 3) ≤ 3 := (by have u0 := b26_; have u1 := (not_congr (zi_lt _ _)).mp c27_; have u2 : (3 : Int32).toInt = 3 := (by decide); omega)
              rw [if_neg c27_] at hw
              by_cases c32_ : (xs 4) < 0
              · have b33_ : (-2147483648) ≤ Int32.toInt (xs 4) ∧ Int32.toInt (xs 4) ≤ (-1) := (by have u0 := zbnd (xs 4); have u1 := (zi_lt _ _).mp c32_; have u2 : (0 : Int32).toInt = 0 := (by decide); omega)
                rw [if_pos c32_] at hw
                subst hw
                refine lv_aload_n hx hb dL_law_233 rfl (lv_at hl 1 rfl) ?_
                refine lv_aload_n hx hb dL_law_234 rfl (lv_at hl 3 rfl) ?_
                refine lv_iload_n hx hb dL_law_235 rfl (lv_at hl 0 rfl) ?_
                refine lv_iconst (v := 1) hx hb dL_law_236 (by decide) ?_
                refine lv_iadd hx hb dL_law_237 ?_
                refine ztop (w := .int 1) (congrArg Value.int (by decide)) ?_
                refine va_sld hx hb hX hbl hbA hS (by unfold vp_in; decide) dL_law_238 ?_
                refine ztop (w := .int (xs 1)) rfl ?_
                refine lv_aload_n hx hb dL_law_239 rfl (lv_at hl 3 rfl) ?_
                refine lv_iload_n hx hb dL_law_240 rfl (lv_at hl 0 rfl) ?_
                refine lv_iconst (v := 2) hx hb dL_law_241 (by decide) ?_
                refine lv_iadd hx hb dL_law_242 ?_
                refine ztop (w := .int 2) (congrArg Value.int (by decide)) ?_
                refine va_sld hx hb hX hbl hbA hS (by unfold vp_in; decide) dL_law_243 ?_
                refine ztop (w := .int (xs 2)) rfl ?_
                refine lv_aload_n hx hb dL_law_244 rfl (lv_at hl 3 rfl) ?_
                refine lv_iload_n hx hb dL_law_245 rfl (lv_at hl 0 rfl) ?_
                refine lv_iconst (v := 3) hx hb dL_law_246 (by decide) ?_
                refine lv_iadd hx hb dL_law_247 ?_
                refine ztop (w := .int 3) (congrArg Value.int (by decide)) ?_
                refine va_sld hx hb hX hbl hbA hS (by unfold vp_in; decide) dL_law_248 ?_
                refine ztop (w := .int (xs 3)) rfl ?_
                refine lv_aload_n hx hb dL_law_249 rfl (lv_at hl 3 rfl) ?_
                refine lv_iload_n hx hb dL_law_250 rfl (lv_at hl 0 rfl) ?_
                refine lv_iconst (v := 4) hx hb dL_law_251 (by decide) ?_
                refine lv_iadd hx hb dL_law_252 ?_
                refine ztop (w := .int 4) (congrArg Value.int (by decide)) ?_
                refine va_sld hx hb hX hbl hbA hS (by unfold vp_in; decide) dL_law_253 ?_
                refine ztop (w := .int (xs 4)) rfl ?_
                refine lv_aload_n hx hb dL_law_254 rfl (lv_at hl 3 rfl) ?_
                refine lv_iload_n hx hb dL_law_255 rfl (lv_at hl 0 rfl) ?_
                refine lv_iconst (v := 5) hx hb dL_law_256 (by decide) ?_
                refine lv_iadd hx hb dL_law_257 ?_
                refine ztop (w := .int 5) (congrArg Value.int (by decide)) ?_
                refine va_sld hx hb hX hbl hbA hS (by unfold vp_in; decide) dL_law_258 ?_
                refine ztop (w := .int (xs 5)) rfl ?_
                refine zgo_i (wr := []) (zrunV (As := [.int (xs 1), .int (xs 2), .int (xs 3), .int (xs 4), .int (xs 5)]) (rest := [.int (-2)]) ⟨hx, hb, hml, hown, ht⟩ (zc_X10_window_0 l D y a1 (xs 1) (xs 2) (xs 3) (xs 4) (xs 5) w11 w12 w13 w14 w15 w16 a17 a18 a19 a20 a21 a22 a23 w24 w25 w26 w27 w28 w29 w30 w31 w32 w33 w34 w35 w36 w37 w38 w39 w40 w41 w42 w43 w44 w45 w46 w47 w48 w49 w50 w51 w52 w53 w54 w55 w56 w57 w58 w59 w60 w61 w62 w63 w64 w65 w66 w67 w68 w69 w70 w71 w72 w73 w74 w75 w76 w77 w78 w79 w80 w81 w82 w83 w84 w85) (cwV 5 ht (zgV zm_236 zm_237 zm_238 zm_5 zm_239) rfl rfl rfl (by decide +kernel) ⟨(Nat.le_of_ble_eq_true rfl), (Nat.le_of_ble_eq_true rfl)⟩) hK hE hS hA hW [0, 1, 2, 3, 4, 5, 6, 7] (by decide) rfl 0 rfl rfl rfl rfl hl.1 rfl (Nat.le_of_ble_eq_true rfl) dL_law_259 (Nat.le_of_ble_eq_true rfl) (Nat.le_of_ble_eq_true rfl)) hS hA hW [0, 1, 2, 3, 4, 5, 6, 7] [] rfl rfl (by decide) (by decide) (fun r34_ u H locs hw hW hS => ?_)
                have hW : zPD D _ [] H := hW
                have hw : r34_ = (if (xs 1) < 0 then (-1) else (if 6 < (xs 1) then (-1) else (if (xs 2) < 0 then (-2) else (if 9 < (xs 2) then (-2) else (if (xs 3) < 0 then (-2) else (if 3 < (xs 3) then (-2) else (if (xs 4) < 0 then (-2) else (if 4 < (xs 4) then (-2) else (if (xs 5) < 1 then (-2) else (if 9 < (xs 5) then (-2) else 0)))))))))) := hw
                rw [if_neg c2_] at hw
                rw [if_neg c7_] at hw
                rw [if_neg c12_] at hw
                rw [if_neg c17_] at hw
                rw [if_neg c22_] at hw
                rw [if_neg c27_] at hw
                rw [if_pos c32_] at hw
                subst hw
                refine lv_icmp_eq (tgt := 1340) hx hb dL_law_262 (by decide) (fun c35_ => ?_) (fun c35_ => absurd (by decide) c35_)
                exact zl_end l C0 hS (lv_sub hl [0, 3] rfl)
              · have b36_ : 0 ≤ Int32.toInt (xs 4) ∧ Int32.toInt (xs 4) ≤ 2147483647 := (by have u0 := zbnd (xs 4); have u1 := (not_congr (zi_lt _ _)).mp c32_; have u2 : (0 : Int32).toInt = 0 := (by decide); omega)
                rw [if_neg c32_] at hw
                by_cases c37_ : 4 < (xs 4)
                · have b38_ : 5 ≤ Int32.toInt (xs 4) ∧ Int32.toInt (xs 4) ≤ 2147483647 := (by have u0 := b36_; have u1 := (zi_lt _ _).mp c37_; have u2 : (4 : Int32).toInt = 4 := (by decide); omega)
                  rw [if_pos c37_] at hw
                  subst hw
                  refine lv_aload_n hx hb dL_law_233 rfl (lv_at hl 1 rfl) ?_
                  refine lv_aload_n hx hb dL_law_234 rfl (lv_at hl 3 rfl) ?_
                  refine lv_iload_n hx hb dL_law_235 rfl (lv_at hl 0 rfl) ?_
                  refine lv_iconst (v := 1) hx hb dL_law_236 (by decide) ?_
                  refine lv_iadd hx hb dL_law_237 ?_
                  refine ztop (w := .int 1) (congrArg Value.int (by decide)) ?_
                  refine va_sld hx hb hX hbl hbA hS (by unfold vp_in; decide) dL_law_238 ?_
                  refine ztop (w := .int (xs 1)) rfl ?_
                  refine lv_aload_n hx hb dL_law_239 rfl (lv_at hl 3 rfl) ?_
                  refine lv_iload_n hx hb dL_law_240 rfl (lv_at hl 0 rfl) ?_
                  refine lv_iconst (v := 2) hx hb dL_law_241 (by decide) ?_
                  refine lv_iadd hx hb dL_law_242 ?_
                  refine ztop (w := .int 2) (congrArg Value.int (by decide)) ?_
                  refine va_sld hx hb hX hbl hbA hS (by unfold vp_in; decide) dL_law_243 ?_
                  refine ztop (w := .int (xs 2)) rfl ?_
                  refine lv_aload_n hx hb dL_law_244 rfl (lv_at hl 3 rfl) ?_
                  refine lv_iload_n hx hb dL_law_245 rfl (lv_at hl 0 rfl) ?_
                  refine lv_iconst (v := 3) hx hb dL_law_246 (by decide) ?_
                  refine lv_iadd hx hb dL_law_247 ?_
                  refine ztop (w := .int 3) (congrArg Value.int (by decide)) ?_
                  refine va_sld hx hb hX hbl hbA hS (by unfold vp_in; decide) dL_law_248 ?_
                  refine ztop (w := .int (xs 3)) rfl ?_
                  refine lv_aload_n hx hb dL_law_249 rfl (lv_at hl 3 rfl) ?_
                  refine lv_iload_n hx hb dL_law_250 rfl (lv_at hl 0 rfl) ?_
                  refine lv_iconst (v := 4) hx hb dL_law_251 (by decide) ?_
                  refine lv_iadd hx hb dL_law_252 ?_
                  refine ztop (w := .int 4) (congrArg Value.int (by decide)) ?_
                  refine va_sld hx hb hX hbl hbA hS (by unfold vp_in; decide) dL_law_253 ?_
                  refine ztop (w := .int (xs 4)) rfl ?_
                  refine lv_aload_n hx hb dL_law_254 rfl (lv_at hl 3 rfl) ?_
                  refine lv_iload_n hx hb dL_law_255 rfl (lv_at hl 0 rfl) ?_
                  refine lv_iconst (v := 5) hx hb dL_law_256 (by decide) ?_
                  refine lv_iadd hx hb dL_law_257 ?_
                  refine ztop (w := .int 5) (congrArg Value.int (by decide)) ?_
                  refine va_sld hx hb hX hbl hbA hS (by unfold vp_in; decide) dL_law_258 ?_
                  refine ztop (w := .int (xs 5)) rfl ?_
                  refine zgo_i (wr := []) (zrunV (As := [.int (xs 1), .int (xs 2), .int (xs 3), .int (xs 4), .int (xs 5)]) (rest := [.int (-2)]) ⟨hx, hb, hml, hown, ht⟩ (zc_X10_window_0 l D y a1 (xs 1) (xs 2) (xs 3) (xs 4) (xs 5) w11 w12 w13 w14 w15 w16 a17 a18 a19 a20 a21 a22 a23 w24 w25 w26 w27 w28 w29 w30 w31 w32 w33 w34 w35 w36 w37 w38 w39 w40 w41 w42 w43 w44 w45 w46 w47 w48 w49 w50 w51 w52 w53 w54 w55 w56 w57 w58 w59 w60 w61 w62 w63 w64 w65 w66 w67 w68 w69 w70 w71 w72 w73 w74 w75 w76 w77 w78 w79 w80 w81 w82 w83 w84 w85) (cwV 5 ht (zgV zm_236 zm_237 zm_238 zm_5 zm_239) rfl rfl rfl (by decide +kernel) ⟨(Nat.le_of_ble_eq_true rfl), (Nat.le_of_ble_eq_true rfl)⟩) hK hE hS hA hW [0, 1, 2, 3, 4, 5, 6, 7] (by decide) rfl 0 rfl rfl rfl rfl hl.1 rfl (Nat.le_of_ble_eq_true rfl) dL_law_259 (Nat.le_of_ble_eq_true rfl) (Nat.le_of_ble_eq_true rfl)) hS hA hW [0, 1, 2, 3, 4, 5, 6, 7] [] rfl rfl (by decide) (by decide) (fun r39_ u H locs hw hW hS => ?_)
                  have hW : zPD D _ [] H := hW
                  have hw : r39_ = (if (xs 1) < 0 then (-1) else (if 6 < (xs 1) then (-1) else (if (xs 2) < 0 then (-2) else (if 9 < (xs 2) then (-2) else (if (xs 3) < 0 then (-2) else (if 3 < (xs 3) then (-2) else (if (xs 4) < 0 then (-2) else (if 4 < (xs 4) then (-2) else (if (xs 5) < 1 then (-2) else (if 9 < (xs 5) then (-2) else 0)))))))))) := hw
                  rw [if_neg c2_] at hw
                  rw [if_neg c7_] at hw
                  rw [if_neg c12_] at hw
                  rw [if_neg c17_] at hw
                  rw [if_neg c22_] at hw
                  rw [if_neg c27_] at hw
                  rw [if_neg c32_] at hw
                  rw [if_pos c37_] at hw
                  subst hw
                  refine lv_icmp_eq (tgt := 1340) hx hb dL_law_262 (by decide) (fun c40_ => ?_) (fun c40_ => absurd (by decide) c40_)
                  exact zl_end l C0 hS (lv_sub hl [0, 3] rfl)
                · have b41_ : 0 ≤ Int32.toInt (xs 4) ∧ Int32.toInt (xs 4) ≤ 4 := (by have u0 := b36_; have u1 := (not_congr (zi_lt _ _)).mp c37_; have u2 : (4 : Int32).toInt = 4 := (by decide); omega)
                  rw [if_neg c37_] at hw
                  by_cases c42_ : (xs 5) < 1
                  · have b43_ : (-2147483648) ≤ Int32.toInt (xs 5) ∧ Int32.toInt (xs 5) ≤ 0 := (by have u0 := zbnd (xs 5); have u1 := (zi_lt _ _).mp c42_; have u2 : (1 : Int32).toInt = 1 := (by decide); omega)
                    rw [if_pos c42_] at hw
                    subst hw
                    refine lv_aload_n hx hb dL_law_233 rfl (lv_at hl 1 rfl) ?_
                    refine lv_aload_n hx hb dL_law_234 rfl (lv_at hl 3 rfl) ?_
                    refine lv_iload_n hx hb dL_law_235 rfl (lv_at hl 0 rfl) ?_
                    refine lv_iconst (v := 1) hx hb dL_law_236 (by decide) ?_
                    refine lv_iadd hx hb dL_law_237 ?_
                    refine ztop (w := .int 1) (congrArg Value.int (by decide)) ?_
                    refine va_sld hx hb hX hbl hbA hS (by unfold vp_in; decide) dL_law_238 ?_
                    refine ztop (w := .int (xs 1)) rfl ?_
                    refine lv_aload_n hx hb dL_law_239 rfl (lv_at hl 3 rfl) ?_
                    refine lv_iload_n hx hb dL_law_240 rfl (lv_at hl 0 rfl) ?_
                    refine lv_iconst (v := 2) hx hb dL_law_241 (by decide) ?_
                    refine lv_iadd hx hb dL_law_242 ?_
                    refine ztop (w := .int 2) (congrArg Value.int (by decide)) ?_
                    refine va_sld hx hb hX hbl hbA hS (by unfold vp_in; decide) dL_law_243 ?_
                    refine ztop (w := .int (xs 2)) rfl ?_
                    refine lv_aload_n hx hb dL_law_244 rfl (lv_at hl 3 rfl) ?_
                    refine lv_iload_n hx hb dL_law_245 rfl (lv_at hl 0 rfl) ?_
                    refine lv_iconst (v := 3) hx hb dL_law_246 (by decide) ?_
                    refine lv_iadd hx hb dL_law_247 ?_
                    refine ztop (w := .int 3) (congrArg Value.int (by decide)) ?_
                    refine va_sld hx hb hX hbl hbA hS (by unfold vp_in; decide) dL_law_248 ?_
                    refine ztop (w := .int (xs 3)) rfl ?_
                    refine lv_aload_n hx hb dL_law_249 rfl (lv_at hl 3 rfl) ?_
                    refine lv_iload_n hx hb dL_law_250 rfl (lv_at hl 0 rfl) ?_
                    refine lv_iconst (v := 4) hx hb dL_law_251 (by decide) ?_
                    refine lv_iadd hx hb dL_law_252 ?_
                    refine ztop (w := .int 4) (congrArg Value.int (by decide)) ?_
                    refine va_sld hx hb hX hbl hbA hS (by unfold vp_in; decide) dL_law_253 ?_
                    refine ztop (w := .int (xs 4)) rfl ?_
                    refine lv_aload_n hx hb dL_law_254 rfl (lv_at hl 3 rfl) ?_
                    refine lv_iload_n hx hb dL_law_255 rfl (lv_at hl 0 rfl) ?_
                    refine lv_iconst (v := 5) hx hb dL_law_256 (by decide) ?_
                    refine lv_iadd hx hb dL_law_257 ?_
                    refine ztop (w := .int 5) (congrArg Value.int (by decide)) ?_
                    refine va_sld hx hb hX hbl hbA hS (by unfold vp_in; decide) dL_law_258 ?_
                    refine ztop (w := .int (xs 5)) rfl ?_
                    refine zgo_i (wr := []) (zrunV (As := [.int (xs 1), .int (xs 2), .int (xs 3), .int (xs 4), .int (xs 5)]) (rest := [.int (-2)]) ⟨hx, hb, hml, hown, ht⟩ (zc_X10_window_0 l D y a1 (xs 1) (xs 2) (xs 3) (xs 4) (xs 5) w11 w12 w13 w14 w15 w16 a17 a18 a19 a20 a21 a22 a23 w24 w25 w26 w27 w28 w29 w30 w31 w32 w33 w34 w35 w36 w37 w38 w39 w40 w41 w42 w43 w44 w45 w46 w47 w48 w49 w50 w51 w52 w53 w54 w55 w56 w57 w58 w59 w60 w61 w62 w63 w64 w65 w66 w67 w68 w69 w70 w71 w72 w73 w74 w75 w76 w77 w78 w79 w80 w81 w82 w83 w84 w85) (cwV 5 ht (zgV zm_236 zm_237 zm_238 zm_5 zm_239) rfl rfl rfl (by decide +kernel) ⟨(Nat.le_of_ble_eq_true rfl), (Nat.le_of_ble_eq_true rfl)⟩) hK hE hS hA hW [0, 1, 2, 3, 4, 5, 6, 7] (by decide) rfl 0 rfl rfl rfl rfl hl.1 rfl (Nat.le_of_ble_eq_true rfl) dL_law_259 (Nat.le_of_ble_eq_true rfl) (Nat.le_of_ble_eq_true rfl)) hS hA hW [0, 1, 2, 3, 4, 5, 6, 7] [] rfl rfl (by decide) (by decide) (fun r44_ u H locs hw hW hS => ?_)
                    have hW : zPD D _ [] H := hW
                    have hw : r44_ = (if (xs 1) < 0 then (-1) else (if 6 < (xs 1) then (-1) else (if (xs 2) < 0 then (-2) else (if 9 < (xs 2) then (-2) else (if (xs 3) < 0 then (-2) else (if 3 < (xs 3) then (-2) else (if (xs 4) < 0 then (-2) else (if 4 < (xs 4) then (-2) else (if (xs 5) < 1 then (-2) else (if 9 < (xs 5) then (-2) else 0)))))))))) := hw
                    rw [if_neg c2_] at hw
                    rw [if_neg c7_] at hw
                    rw [if_neg c12_] at hw
                    rw [if_neg c17_] at hw
                    rw [if_neg c22_] at hw
                    rw [if_neg c27_] at hw
                    rw [if_neg c32_] at hw
                    rw [if_neg c37_] at hw
                    rw [if_pos c42_] at hw
                    subst hw
                    refine lv_icmp_eq (tgt := 1340) hx hb dL_law_262 (by decide) (fun c45_ => ?_) (fun c45_ => absurd (by decide) c45_)
                    exact zl_end l C0 hS (lv_sub hl [0, 3] rfl)
                  · have b46_ : 1 ≤ Int32.toInt (xs 5) ∧ Int32.toInt (xs 5) ≤ 2147483647 := (by have u0 := zbnd (xs 5); have u1 := (not_congr (zi_lt _ _)).mp c42_; have u2 : (1 : Int32).toInt = 1 := (by decide); omega)
                    rw [if_neg c42_] at hw
                    by_cases c47_ : 9 < (xs 5)
                    · have b48_ : 10 ≤ Int32.toInt (xs 5) ∧ Int32.toInt (xs 5) ≤ 2147483647 := (by have u0 := b46_; have u1 := (zi_lt _ _).mp c47_; have u2 : (9 : Int32).toInt = 9 := (by decide); omega)
                      rw [if_pos c47_] at hw
                      subst hw
                      refine lv_aload_n hx hb dL_law_233 rfl (lv_at hl 1 rfl) ?_
                      refine lv_aload_n hx hb dL_law_234 rfl (lv_at hl 3 rfl) ?_
                      refine lv_iload_n hx hb dL_law_235 rfl (lv_at hl 0 rfl) ?_
                      refine lv_iconst (v := 1) hx hb dL_law_236 (by decide) ?_
                      refine lv_iadd hx hb dL_law_237 ?_
                      refine ztop (w := .int 1) (congrArg Value.int (by decide)) ?_
                      refine va_sld hx hb hX hbl hbA hS (by unfold vp_in; decide) dL_law_238 ?_
                      refine ztop (w := .int (xs 1)) rfl ?_
                      refine lv_aload_n hx hb dL_law_239 rfl (lv_at hl 3 rfl) ?_
                      refine lv_iload_n hx hb dL_law_240 rfl (lv_at hl 0 rfl) ?_
                      refine lv_iconst (v := 2) hx hb dL_law_241 (by decide) ?_
                      refine lv_iadd hx hb dL_law_242 ?_
                      refine ztop (w := .int 2) (congrArg Value.int (by decide)) ?_
                      refine va_sld hx hb hX hbl hbA hS (by unfold vp_in; decide) dL_law_243 ?_
                      refine ztop (w := .int (xs 2)) rfl ?_
                      refine lv_aload_n hx hb dL_law_244 rfl (lv_at hl 3 rfl) ?_
                      refine lv_iload_n hx hb dL_law_245 rfl (lv_at hl 0 rfl) ?_
                      refine lv_iconst (v := 3) hx hb dL_law_246 (by decide) ?_
                      refine lv_iadd hx hb dL_law_247 ?_
                      refine ztop (w := .int 3) (congrArg Value.int (by decide)) ?_
                      refine va_sld hx hb hX hbl hbA hS (by unfold vp_in; decide) dL_law_248 ?_
                      refine ztop (w := .int (xs 3)) rfl ?_
                      refine lv_aload_n hx hb dL_law_249 rfl (lv_at hl 3 rfl) ?_
                      refine lv_iload_n hx hb dL_law_250 rfl (lv_at hl 0 rfl) ?_
                      refine lv_iconst (v := 4) hx hb dL_law_251 (by decide) ?_
                      refine lv_iadd hx hb dL_law_252 ?_
                      refine ztop (w := .int 4) (congrArg Value.int (by decide)) ?_
                      refine va_sld hx hb hX hbl hbA hS (by unfold vp_in; decide) dL_law_253 ?_
                      refine ztop (w := .int (xs 4)) rfl ?_
                      refine lv_aload_n hx hb dL_law_254 rfl (lv_at hl 3 rfl) ?_
                      refine lv_iload_n hx hb dL_law_255 rfl (lv_at hl 0 rfl) ?_
                      refine lv_iconst (v := 5) hx hb dL_law_256 (by decide) ?_
                      refine lv_iadd hx hb dL_law_257 ?_
                      refine ztop (w := .int 5) (congrArg Value.int (by decide)) ?_
                      refine va_sld hx hb hX hbl hbA hS (by unfold vp_in; decide) dL_law_258 ?_
                      refine ztop (w := .int (xs 5)) rfl ?_
                      refine zgo_i (wr := []) (zrunV (As := [.int (xs 1), .int (xs 2), .int (xs 3), .int (xs 4), .int (xs 5)]) (rest := [.int (-2)]) ⟨hx, hb, hml, hown, ht⟩ (zc_X10_window_0 l D y a1 (xs 1) (xs 2) (xs 3) (xs 4) (xs 5) w11 w12 w13 w14 w15 w16 a17 a18 a19 a20 a21 a22 a23 w24 w25 w26 w27 w28 w29 w30 w31 w32 w33 w34 w35 w36 w37 w38 w39 w40 w41 w42 w43 w44 w45 w46 w47 w48 w49 w50 w51 w52 w53 w54 w55 w56 w57 w58 w59 w60 w61 w62 w63 w64 w65 w66 w67 w68 w69 w70 w71 w72 w73 w74 w75 w76 w77 w78 w79 w80 w81 w82 w83 w84 w85) (cwV 5 ht (zgV zm_236 zm_237 zm_238 zm_5 zm_239) rfl rfl rfl (by decide +kernel) ⟨(Nat.le_of_ble_eq_true rfl), (Nat.le_of_ble_eq_true rfl)⟩) hK hE hS hA hW [0, 1, 2, 3, 4, 5, 6, 7] (by decide) rfl 0 rfl rfl rfl rfl hl.1 rfl (Nat.le_of_ble_eq_true rfl) dL_law_259 (Nat.le_of_ble_eq_true rfl) (Nat.le_of_ble_eq_true rfl)) hS hA hW [0, 1, 2, 3, 4, 5, 6, 7] [] rfl rfl (by decide) (by decide) (fun r49_ u H locs hw hW hS => ?_)
                      have hW : zPD D _ [] H := hW
                      have hw : r49_ = (if (xs 1) < 0 then (-1) else (if 6 < (xs 1) then (-1) else (if (xs 2) < 0 then (-2) else (if 9 < (xs 2) then (-2) else (if (xs 3) < 0 then (-2) else (if 3 < (xs 3) then (-2) else (if (xs 4) < 0 then (-2) else (if 4 < (xs 4) then (-2) else (if (xs 5) < 1 then (-2) else (if 9 < (xs 5) then (-2) else 0)))))))))) := hw
                      rw [if_neg c2_] at hw
                      rw [if_neg c7_] at hw
                      rw [if_neg c12_] at hw
                      rw [if_neg c17_] at hw
                      rw [if_neg c22_] at hw
                      rw [if_neg c27_] at hw
                      rw [if_neg c32_] at hw
                      rw [if_neg c37_] at hw
                      rw [if_neg c42_] at hw
                      rw [if_pos c47_] at hw
                      subst hw
                      refine lv_icmp_eq (tgt := 1340) hx hb dL_law_262 (by decide) (fun c50_ => ?_) (fun c50_ => absurd (by decide) c50_)
                      exact zl_end l C0 hS (lv_sub hl [0, 3] rfl)
                    · have b51_ : 1 ≤ Int32.toInt (xs 5) ∧ Int32.toInt (xs 5) ≤ 9 := (by have u0 := b46_; have u1 := (not_congr (zi_lt _ _)).mp c47_; have u2 : (9 : Int32).toInt = 9 := (by decide); omega)
                      rw [if_neg c47_] at hw
                      subst hw
                      refine lv_aload_n hx hb dL_law_233 rfl (lv_at hl 1 rfl) ?_
                      refine lv_aload_n hx hb dL_law_234 rfl (lv_at hl 3 rfl) ?_
                      refine lv_iload_n hx hb dL_law_235 rfl (lv_at hl 0 rfl) ?_
                      refine lv_iconst (v := 1) hx hb dL_law_236 (by decide) ?_
                      refine lv_iadd hx hb dL_law_237 ?_
                      refine ztop (w := .int 1) (congrArg Value.int (by decide)) ?_
                      refine va_sld hx hb hX hbl hbA hS (by unfold vp_in; decide) dL_law_238 ?_
                      refine ztop (w := .int (xs 1)) rfl ?_
                      refine lv_aload_n hx hb dL_law_239 rfl (lv_at hl 3 rfl) ?_
                      refine lv_iload_n hx hb dL_law_240 rfl (lv_at hl 0 rfl) ?_
                      refine lv_iconst (v := 2) hx hb dL_law_241 (by decide) ?_
                      refine lv_iadd hx hb dL_law_242 ?_
                      refine ztop (w := .int 2) (congrArg Value.int (by decide)) ?_
                      refine va_sld hx hb hX hbl hbA hS (by unfold vp_in; decide) dL_law_243 ?_
                      refine ztop (w := .int (xs 2)) rfl ?_
                      refine lv_aload_n hx hb dL_law_244 rfl (lv_at hl 3 rfl) ?_
                      refine lv_iload_n hx hb dL_law_245 rfl (lv_at hl 0 rfl) ?_
                      refine lv_iconst (v := 3) hx hb dL_law_246 (by decide) ?_
                      refine lv_iadd hx hb dL_law_247 ?_
                      refine ztop (w := .int 3) (congrArg Value.int (by decide)) ?_
                      refine va_sld hx hb hX hbl hbA hS (by unfold vp_in; decide) dL_law_248 ?_
                      refine ztop (w := .int (xs 3)) rfl ?_
                      refine lv_aload_n hx hb dL_law_249 rfl (lv_at hl 3 rfl) ?_
                      refine lv_iload_n hx hb dL_law_250 rfl (lv_at hl 0 rfl) ?_
                      refine lv_iconst (v := 4) hx hb dL_law_251 (by decide) ?_
                      refine lv_iadd hx hb dL_law_252 ?_
                      refine ztop (w := .int 4) (congrArg Value.int (by decide)) ?_
                      refine va_sld hx hb hX hbl hbA hS (by unfold vp_in; decide) dL_law_253 ?_
                      refine ztop (w := .int (xs 4)) rfl ?_
                      refine lv_aload_n hx hb dL_law_254 rfl (lv_at hl 3 rfl) ?_
                      refine lv_iload_n hx hb dL_law_255 rfl (lv_at hl 0 rfl) ?_
                      refine lv_iconst (v := 5) hx hb dL_law_256 (by decide) ?_
                      refine lv_iadd hx hb dL_law_257 ?_
                      refine ztop (w := .int 5) (congrArg Value.int (by decide)) ?_
                      refine va_sld hx hb hX hbl hbA hS (by unfold vp_in; decide) dL_law_258 ?_
                      refine ztop (w := .int (xs 5)) rfl ?_
                      refine zgo_i (wr := []) (zrunV (As := [.int (xs 1), .int (xs 2), .int (xs 3), .int (xs 4), .int (xs 5)]) (rest := [.int 0]) ⟨hx, hb, hml, hown, ht⟩ (zc_X10_window_0 l D y a1 (xs 1) (xs 2) (xs 3) (xs 4) (xs 5) w11 w12 w13 w14 w15 w16 a17 a18 a19 a20 a21 a22 a23 w24 w25 w26 w27 w28 w29 w30 w31 w32 w33 w34 w35 w36 w37 w38 w39 w40 w41 w42 w43 w44 w45 w46 w47 w48 w49 w50 w51 w52 w53 w54 w55 w56 w57 w58 w59 w60 w61 w62 w63 w64 w65 w66 w67 w68 w69 w70 w71 w72 w73 w74 w75 w76 w77 w78 w79 w80 w81 w82 w83 w84 w85) (cwV 5 ht (zgV zm_236 zm_237 zm_238 zm_5 zm_239) rfl rfl rfl (by decide +kernel) ⟨(Nat.le_of_ble_eq_true rfl), (Nat.le_of_ble_eq_true rfl)⟩) hK hE hS hA hW [0, 1, 2, 3, 4, 5, 6, 7] (by decide) rfl 0 rfl rfl rfl rfl hl.1 rfl (Nat.le_of_ble_eq_true rfl) dL_law_259 (Nat.le_of_ble_eq_true rfl) (Nat.le_of_ble_eq_true rfl)) hS hA hW [0, 1, 2, 3, 4, 5, 6, 7] [] rfl rfl (by decide) (by decide) (fun r52_ u H locs hw hW hS => ?_)
                      have hW : zPD D _ [] H := hW
                      have hw : r52_ = (if (xs 1) < 0 then (-1) else (if 6 < (xs 1) then (-1) else (if (xs 2) < 0 then (-2) else (if 9 < (xs 2) then (-2) else (if (xs 3) < 0 then (-2) else (if 3 < (xs 3) then (-2) else (if (xs 4) < 0 then (-2) else (if 4 < (xs 4) then (-2) else (if (xs 5) < 1 then (-2) else (if 9 < (xs 5) then (-2) else 0)))))))))) := hw
                      rw [if_neg c2_] at hw
                      rw [if_neg c7_] at hw
                      rw [if_neg c12_] at hw
                      rw [if_neg c17_] at hw
                      rw [if_neg c22_] at hw
                      rw [if_neg c27_] at hw
                      rw [if_neg c32_] at hw
                      rw [if_neg c37_] at hw
                      rw [if_neg c42_] at hw
                      rw [if_neg c47_] at hw
                      subst hw
                      refine lv_icmp_eq (tgt := 1340) hx hb dL_law_262 (by decide) (fun c53_ => ?_) (fun c53_ => absurd (by decide) c53_)
                      exact zl_end l C0 hS (lv_sub hl [0, 3] rfl)
set_option maxHeartbeats 8000000 in
set_option maxRecDepth 100000 in
theorem zl_case_1 {p : Program} {e : Env} {s : State} {m : MethodId} {below : List Frame} {meth : Method} {c : Code} (l : Launch) {b : Nat} {xs : Nat → Int32} (C0 : lw_At p s m meth c b 6 xs) (D : va_G) (y : Nat → ClassId) (a0 : Nat) (a1 : Nat) (w2 : Value) (w3 : Value) (w4 : Value) (a5 : Nat) (w6 : Value) (w7 : Value) (w8 : Value) (w9 : Value) (w10 : Value) (w11 : Value) (w12 : Value) (w13 : Value) (w14 : Value) (w15 : Value) (w16 : Value) (w17 : Value) (w18 : Value) (w19 : Value) (w20 : Value) (w21 : Value) (w22 : Value) (w23 : Value) (w24 : Value) (w25 : Value) (w26 : Value) (w27 : Value) (w28 : Value) (w29 : Value) (w30 : Value) (w31 : Value) (w32 : Value) (w33 : Value) (w34 : Value) (w35 : Value) (w36 : Value) (w37 : Value) (w38 : Value) (w39 : Value) (w40 : Value) (w41 : Value) (w42 : Value) (w43 : Value) (w44 : Value) (w45 : Value) (w46 : Value) (w47 : Value) (w48 : Value) (w49 : Value) (w50 : Value) (w51 : Value) (w52 : Value) (w53 : Value) (w54 : Value) (w55 : Value) (w56 : Value) (w57 : Value) (w58 : Value) (w59 : Value) (w60 : Value) (w61 : Value) (w62 : Value) (w63 : Value) (w64 : Value) (w65 : Value) (w66 : Value) (w67 : Value) (w68 : Value) (w69 : Value) (w70 : Value) (w71 : Value) (w72 : Value) (w73 : Value) (w74 : Value) (w75 : Value) (w76 : Value) (w77 : Value) (w78 : Value) (w79 : Value) (w80 : Value) (w81 : Value) (w82 : Value) (w83 : Value) (w84 : Value) (w85 : Value) (w86 : Value) (w87 : Value) (w88 : Value) (w89 : Value) (w90 : Value) (w91 : Value) (w92 : Value) (w93 : Value) (w94 : Value) (w95 : Value) (w96 : Value) (hK : zK D y s) (hE : zE y (fun q : Nat => s.heap.size ≤ q) s s.heap) {H : Heap} {locs : List Loc} {ls : Array Slot} (hS : va_S (fun q : Nat => s.heap.size ≤ q) s.heap H locs) (hW : zPD D (fun q : Nat => s.heap.size ≤ q) [(a0, .inr (8, [w2, w3, w4, .ref a5, w6, w7, w8, w9, w10])), (a1, .inr (9, [.int 0, w11, w12, w13, w14, w15, w16, w17, w18, w19, w20, w21, w22, w23, w24, w25, w26, w27, w28, w29, w30, w31, w32, w33, w34, w35, w36, w37, w38, w39, w40, w41, w42, w43, w44, w45, w46, w47, w48, w49, w50, w51, w52, w53, w54, w55, w56, w57, w58, w59, w60, w61, w62, w63, w64, w65, w66, w67, w68, w69, w70, w71, w72, w73, w74, w75, w76, w77, w78, w79, w80, w81, w82, w83, w84, w85])), (a5, .inr (6, [w86, .int 0, w87, w88, w89, w90, w91, w92, w93, w94, w95, w96]))] H) (hl : lv_has ls 4 [(3, .int 0), (2, .ref a1), (1, .ref a0), (0, .ref b)]) : W p l e room_1 s m #[Value.ref b] below meth c H locs 1000 20000 (lw_Z below #[Value.ref b] s) (F0 m 267 ls []) := by
  obtain ⟨hx, hb, hr, hml, hown, hts, hX, hbl, hlocks, hgv⟩ := id C0
  have ht : ∀ w ∈ zT, w.before #[Value.ref b] s = true := fun w h => hts w (zgin w h).1
  have hown : s.vm.findClass RL = some m.cls := hown
  have hA : ∀ q : Nat, s.heap.size ≤ q → (fun q : Nat => s.heap.size ≤ q) q := fun _ h => h
  have hbA : ¬ (fun q : Nat => s.heap.size ≤ q) b := Nat.not_le.mpr hbl
  refine lv_aload_n hx hb dL_law_267 rfl (lv_at hl 2 rfl) ?_
  refine lv_aload_n hx hb dL_law_268 rfl (lv_at hl 3 rfl) ?_
  refine lv_iload_n hx hb dL_law_269 rfl (lv_at hl 0 rfl) ?_
  refine lv_iconst (v := 1) hx hb dL_law_270 (by decide) ?_
  refine lv_iadd hx hb dL_law_271 ?_
  refine ztop (w := .int 1) (congrArg Value.int (by decide)) ?_
  refine va_sld hx hb hX hbl hbA hS (by unfold vp_in; decide) dL_law_272 ?_
  refine ztop (w := .int (xs 1)) rfl ?_
  refine lv_aload_n hx hb dL_law_273 rfl (lv_at hl 3 rfl) ?_
  refine lv_iload_n hx hb dL_law_274 rfl (lv_at hl 0 rfl) ?_
  refine lv_iconst (v := 2) hx hb dL_law_275 (by decide) ?_
  refine lv_iadd hx hb dL_law_276 ?_
  refine ztop (w := .int 2) (congrArg Value.int (by decide)) ?_
  refine va_sld hx hb hX hbl hbA hS (by unfold vp_in; decide) dL_law_277 ?_
  refine ztop (w := .int (xs 2)) rfl ?_
  refine zgo_i (wr := [(a1, .inr (9, [.int 0, w11, w12, w13, w14, w15, w16, w17, w18, w19, w20, w21, w22, w23, w24, w25, w26, w27, w28, w29, w30, w31, w32, w33, w34, w35, w36, w37, w38, w39, w40, w41, w42, w43, w44, w45, w46, w47, w48, w49, w50, w51, w52, w53, w54, w55, w56, w57, w58, w59, w60, w61, w62, w63, w64, w65, w66, w67, w68, w69, w70, w71, w72, w73, w74, w75, w76, w77, w78, w79, w80, w81, w82, w83, w84, w85]))]) (zrunV (As := [.int (xs 1), .int (xs 2)]) (rest := []) ⟨hx, hb, hml, hown, ht⟩ (zc_X9_of_0 l D y a0 (xs 1) (xs 2) w2 w3 w4 a5 w6 w7 w8 w9 w10 w86 w87 w88 w89 w90 w91 w92 w93 w94 w95 w96) (cwV 2 ht (zgV zm_248 zm_249 zm_250 zm_2 zm_251) rfl rfl rfl (by decide +kernel) ⟨(Nat.le_of_ble_eq_true rfl), (Nat.le_of_ble_eq_true rfl)⟩) hK hE hS hA hW [0, 2] (by decide) rfl 0 rfl rfl rfl rfl hl.1 rfl (Nat.le_of_ble_eq_true rfl) dL_law_278 (Nat.le_of_ble_eq_true rfl) (Nat.le_of_ble_eq_true rfl)) hS hA hW [0, 2] [1] rfl rfl (by decide) (by decide) (fun r1_ u H locs hw hW hS => ?_)
  have hW : zPD D _ [(a1, .inr (9, [.int 0, w11, w12, w13, w14, w15, w16, w17, w18, w19, w20, w21, w22, w23, w24, w25, w26, w27, w28, w29, w30, w31, w32, w33, w34, w35, w36, w37, w38, w39, w40, w41, w42, w43, w44, w45, w46, w47, w48, w49, w50, w51, w52, w53, w54, w55, w56, w57, w58, w59, w60, w61, w62, w63, w64, w65, w66, w67, w68, w69, w70, w71, w72, w73, w74, w75, w76, w77, w78, w79, w80, w81, w82, w83, w84, w85]))] H := hW
  have hw : r1_ = (-1) := hw
  subst hw
  refine lv_aload_n hx hb dL_law_281 rfl (lv_at hl 1 rfl) ?_
  refine lv_aload_n hx hb dL_law_282 rfl (lv_at hl 3 rfl) ?_
  refine lv_iload_n hx hb dL_law_283 rfl (lv_at hl 0 rfl) ?_
  refine lv_iconst (v := 1) hx hb dL_law_284 (by decide) ?_
  refine lv_iadd hx hb dL_law_285 ?_
  refine ztop (w := .int 1) (congrArg Value.int (by decide)) ?_
  refine va_sld hx hb hX hbl hbA hS (by unfold vp_in; decide) dL_law_286 ?_
  refine ztop (w := .int (xs 1)) rfl ?_
  refine lv_aload_n hx hb dL_law_287 rfl (lv_at hl 3 rfl) ?_
  refine lv_iload_n hx hb dL_law_288 rfl (lv_at hl 0 rfl) ?_
  refine lv_iconst (v := 2) hx hb dL_law_289 (by decide) ?_
  refine lv_iadd hx hb dL_law_290 ?_
  refine ztop (w := .int 2) (congrArg Value.int (by decide)) ?_
  refine va_sld hx hb hX hbl hbA hS (by unfold vp_in; decide) dL_law_291 ?_
  refine ztop (w := .int (xs 2)) rfl ?_
  refine zgo_i (wr := []) (zrunV (As := [.int (xs 1), .int (xs 2)]) (rest := [.int (-1)]) ⟨hx, hb, hml, hown, ht⟩ (zc_X10_of_0 l D y a1 (xs 1) (xs 2) w11 w12 w13 w14 w15 w16 w17 w18 w19 w20 w21 w22 w23 w24 w25 w26 w27 w28 w29 w30 w31 w32 w33 w34 w35 w36 w37 w38 w39 w40 w41 w42 w43 w44 w45 w46 w47 w48 w49 w50 w51 w52 w53 w54 w55 w56 w57 w58 w59 w60 w61 w62 w63 w64 w65 w66 w67 w68 w69 w70 w71 w72 w73 w74 w75 w76 w77 w78 w79 w80 w81 w82 w83 w84 w85) (cwV 2 ht (zgV zm_349 zm_350 zm_351 zm_5 zm_352) rfl rfl rfl (by decide +kernel) ⟨(Nat.le_of_ble_eq_true rfl), (Nat.le_of_ble_eq_true rfl)⟩) hK hE hS hA hW [0] (by decide) rfl 0 rfl rfl rfl rfl hl.1 rfl (Nat.le_of_ble_eq_true rfl) dL_law_292 (Nat.le_of_ble_eq_true rfl) (Nat.le_of_ble_eq_true rfl)) hS hA hW [0] [] rfl rfl (by decide) (by decide) (fun r2_ u H locs hw hW hS => ?_)
  have hW : zPD D _ [] H := hW
  have hw : r2_ = (-1) := hw
  subst hw
  refine lv_icmp_eq (tgt := 1340) hx hb dL_law_295 (by decide) (fun c3_ => ?_) (fun c3_ => absurd (by decide) c3_)
  exact zl_end l C0 hS (lv_sub hl [0, 3] rfl)
set_option maxHeartbeats 8000000 in
set_option maxRecDepth 100000 in
theorem zl_case_2 {p : Program} {e : Env} {s : State} {m : MethodId} {below : List Frame} {meth : Method} {c : Code} (l : Launch) {b : Nat} {xs : Nat → Int32} (C0 : lw_At p s m meth c b 6 xs) (D : va_G) (y : Nat → ClassId) (a0 : Nat) (a1 : Nat) (w2 : Value) (w3 : Value) (w4 : Value) (a5 : Nat) (w6 : Value) (w7 : Value) (w8 : Value) (w9 : Value) (w10 : Value) (w11 : Value) (w12 : Value) (w13 : Value) (w14 : Value) (w15 : Value) (w16 : Value) (w17 : Value) (w18 : Value) (w19 : Value) (w20 : Value) (w21 : Value) (w22 : Value) (w23 : Value) (w24 : Value) (w25 : Value) (w26 : Value) (w27 : Value) (w28 : Value) (w29 : Value) (w30 : Value) (w31 : Value) (w32 : Value) (w33 : Value) (w34 : Value) (w35 : Value) (w36 : Value) (w37 : Value) (w38 : Value) (w39 : Value) (w40 : Value) (w41 : Value) (w42 : Value) (w43 : Value) (w44 : Value) (w45 : Value) (w46 : Value) (w47 : Value) (w48 : Value) (w49 : Value) (w50 : Value) (w51 : Value) (w52 : Value) (w53 : Value) (w54 : Value) (w55 : Value) (w56 : Value) (w57 : Value) (w58 : Value) (w59 : Value) (w60 : Value) (w61 : Value) (w62 : Value) (w63 : Value) (w64 : Value) (w65 : Value) (w66 : Value) (w67 : Value) (w68 : Value) (w69 : Value) (w70 : Value) (w71 : Value) (w72 : Value) (w73 : Value) (w74 : Value) (w75 : Value) (w76 : Value) (w77 : Value) (w78 : Value) (w79 : Value) (w80 : Value) (w81 : Value) (w82 : Value) (w83 : Value) (w84 : Value) (w85 : Value) (w86 : Value) (w87 : Value) (w88 : Value) (w89 : Value) (w90 : Value) (w91 : Value) (w92 : Value) (w93 : Value) (w94 : Value) (w95 : Value) (w96 : Value) (hK : zK D y s) (hE : zE y (fun q : Nat => s.heap.size ≤ q) s s.heap) {H : Heap} {locs : List Loc} {ls : Array Slot} (hS : va_S (fun q : Nat => s.heap.size ≤ q) s.heap H locs) (hW : zPD D (fun q : Nat => s.heap.size ≤ q) [(a0, .inr (8, [w2, w3, w4, .ref a5, w6, w7, w8, w9, w10])), (a1, .inr (9, [.int 0, w11, w12, w13, w14, w15, w16, w17, w18, w19, w20, w21, w22, w23, w24, w25, w26, w27, w28, w29, w30, w31, w32, w33, w34, w35, w36, w37, w38, w39, w40, w41, w42, w43, w44, w45, w46, w47, w48, w49, w50, w51, w52, w53, w54, w55, w56, w57, w58, w59, w60, w61, w62, w63, w64, w65, w66, w67, w68, w69, w70, w71, w72, w73, w74, w75, w76, w77, w78, w79, w80, w81, w82, w83, w84, w85])), (a5, .inr (6, [w86, .int 0, w87, w88, w89, w90, w91, w92, w93, w94, w95, w96]))] H) (hl : lv_has ls 4 [(3, .int 0), (2, .ref a1), (1, .ref a0), (0, .ref b)]) : W p l e room_1 s m #[Value.ref b] below meth c H locs 1000 20000 (lw_Z below #[Value.ref b] s) (F0 m 300 ls []) := by
  obtain ⟨hx, hb, hr, hml, hown, hts, hX, hbl, hlocks, hgv⟩ := id C0
  have ht : ∀ w ∈ zT, w.before #[Value.ref b] s = true := fun w h => hts w (zgin w h).1
  have hown : s.vm.findClass RL = some m.cls := hown
  have hA : ∀ q : Nat, s.heap.size ≤ q → (fun q : Nat => s.heap.size ≤ q) q := fun _ h => h
  have hbA : ¬ (fun q : Nat => s.heap.size ≤ q) b := Nat.not_le.mpr hbl
  refine lv_aload_n hx hb dL_law_300 rfl (lv_at hl 2 rfl) ?_
  refine lv_aload_n hx hb dL_law_301 rfl (lv_at hl 3 rfl) ?_
  refine lv_iload_n hx hb dL_law_302 rfl (lv_at hl 0 rfl) ?_
  refine lv_iconst (v := 1) hx hb dL_law_303 (by decide) ?_
  refine lv_iadd hx hb dL_law_304 ?_
  refine ztop (w := .int 1) (congrArg Value.int (by decide)) ?_
  refine va_sld hx hb hX hbl hbA hS (by unfold vp_in; decide) dL_law_305 ?_
  refine ztop (w := .int (xs 1)) rfl ?_
  refine lv_aload_n hx hb dL_law_306 rfl (lv_at hl 3 rfl) ?_
  refine lv_iload_n hx hb dL_law_307 rfl (lv_at hl 0 rfl) ?_
  refine lv_iconst (v := 2) hx hb dL_law_308 (by decide) ?_
  refine lv_iadd hx hb dL_law_309 ?_
  refine ztop (w := .int 2) (congrArg Value.int (by decide)) ?_
  refine va_sld hx hb hX hbl hbA hS (by unfold vp_in; decide) dL_law_310 ?_
  refine ztop (w := .int (xs 2)) rfl ?_
  refine lv_if_eq (tgt := 318) hx hb dL_law_311 (by decide) (fun c1_ => ?_) (fun c1_ => ?_)
  · have b2_ : 0 ≤ Int32.toInt (xs 2) ∧ Int32.toInt (xs 2) ≤ 0 := (by have u0 := zbnd (xs 2); have u1 := (zi_eq _ _).mp c1_; have u2 : (0 : Int32).toInt = 0 := (by decide); omega)
    refine lv_iconst (v := 0) hx hb dL_law_318 (by decide) ?_
    refine zgo_i (wr := [(a1, .inr (9, [.int 0, w11, w12, w13, w14, w15, w16, w17, w18, w19, w20, w21, w22, w23, w24, w25, w26, w27, w28, w29, w30, w31, w32, w33, w34, w35, w36, w37, w38, w39, w40, w41, w42, w43, w44, w45, w46, w47, w48, w49, w50, w51, w52, w53, w54, w55, w56, w57, w58, w59, w60, w61, w62, w63, w64, w65, w66, w67, w68, w69, w70, w71, w72, w73, w74, w75, w76, w77, w78, w79, w80, w81, w82, w83, w84, w85]))]) (zrunV (As := [.int (xs 1), .int 0]) (rest := []) ⟨hx, hb, hml, hown, ht⟩ (zc_X9_put_0 l D y a0 (xs 1) w2 w3 w4 a5 w6 w7 w8 w9 w10 w86 w87 w88 w89 w90 w91 w92 w93 w94 w95 w96) (cwV 2 ht (zgV zm_414 zm_415 zm_416 zm_2 zm_417) rfl rfl rfl (by decide +kernel) ⟨(Nat.le_of_ble_eq_true rfl), (Nat.le_of_ble_eq_true rfl)⟩) hK hE hS hA hW [0, 2] (by decide) rfl 0 rfl rfl rfl rfl hl.1 rfl (Nat.le_of_ble_eq_true rfl) dL_law_319 (Nat.le_of_ble_eq_true rfl) (Nat.le_of_ble_eq_true rfl)) hS hA hW [0, 2] [1] rfl rfl (by decide) (by decide) (fun r3_ u H locs hw hW hS => ?_)
    have hW : zPD D _ [(a1, .inr (9, [.int 0, w11, w12, w13, w14, w15, w16, w17, w18, w19, w20, w21, w22, w23, w24, w25, w26, w27, w28, w29, w30, w31, w32, w33, w34, w35, w36, w37, w38, w39, w40, w41, w42, w43, w44, w45, w46, w47, w48, w49, w50, w51, w52, w53, w54, w55, w56, w57, w58, w59, w60, w61, w62, w63, w64, w65, w66, w67, w68, w69, w70, w71, w72, w73, w74, w75, w76, w77, w78, w79, w80, w81, w82, w83, w84, w85]))] H := hW
    have hw : r3_ = (-1) := hw
    subst hw
    refine lv_aload_n hx hb dL_law_322 rfl (lv_at hl 1 rfl) ?_
    refine lv_aload_n hx hb dL_law_323 rfl (lv_at hl 3 rfl) ?_
    refine lv_iload_n hx hb dL_law_324 rfl (lv_at hl 0 rfl) ?_
    refine lv_iconst (v := 1) hx hb dL_law_325 (by decide) ?_
    refine lv_iadd hx hb dL_law_326 ?_
    refine ztop (w := .int 1) (congrArg Value.int (by decide)) ?_
    refine va_sld hx hb hX hbl hbA hS (by unfold vp_in; decide) dL_law_327 ?_
    refine ztop (w := .int (xs 1)) rfl ?_
    refine lv_aload_n hx hb dL_law_328 rfl (lv_at hl 3 rfl) ?_
    refine lv_iload_n hx hb dL_law_329 rfl (lv_at hl 0 rfl) ?_
    refine lv_iconst (v := 2) hx hb dL_law_330 (by decide) ?_
    refine lv_iadd hx hb dL_law_331 ?_
    refine ztop (w := .int 2) (congrArg Value.int (by decide)) ?_
    refine va_sld hx hb hX hbl hbA hS (by unfold vp_in; decide) dL_law_332 ?_
    refine ztop (w := .int (xs 2)) rfl ?_
    refine lv_if_eq (tgt := 340) hx hb dL_law_333 (by decide) (fun c4_ => ?_) (fun c4_ => absurd c1_ c4_)
    refine lv_iconst (v := 0) hx hb dL_law_340 (by decide) ?_
    refine zgo_i (wr := []) (zrunV (As := [.int (xs 1), .int 0]) (rest := [.int (-1)]) ⟨hx, hb, hml, hown, ht⟩ (zc_X10_put_0 l D y a1 (xs 1) w11 w12 w13 w14 w15 w16 w17 w18 w19 w20 w21 w22 w23 w24 w25 w26 w27 w28 w29 w30 w31 w32 w33 w34 w35 w36 w37 w38 w39 w40 w41 w42 w43 w44 w45 w46 w47 w48 w49 w50 w51 w52 w53 w54 w55 w56 w57 w58 w59 w60 w61 w62 w63 w64 w65 w66 w67 w68 w69 w70 w71 w72 w73 w74 w75 w76 w77 w78 w79 w80 w81 w82 w83 w84 w85) (cwV 2 ht (zgV zm_418 zm_419 zm_420 zm_5 zm_421) rfl rfl rfl (by decide +kernel) ⟨(Nat.le_of_ble_eq_true rfl), (Nat.le_of_ble_eq_true rfl)⟩) hK hE hS hA hW [0] (by decide) rfl 0 rfl rfl rfl rfl hl.1 rfl (Nat.le_of_ble_eq_true rfl) dL_law_341 (Nat.le_of_ble_eq_true rfl) (Nat.le_of_ble_eq_true rfl)) hS hA hW [0] [] rfl rfl (by decide) (by decide) (fun r5_ u H locs hw hW hS => ?_)
    have hW : zPD D _ [] H := hW
    have hw : r5_ = (-1) := hw
    subst hw
    refine lv_icmp_eq (tgt := 1340) hx hb dL_law_344 (by decide) (fun c6_ => ?_) (fun c6_ => absurd (by decide) c6_)
    exact zl_end l C0 hS (lv_sub hl [0, 3] rfl)
  · have b7_ : (-2147483648) ≤ Int32.toInt (xs 2) ∧ Int32.toInt (xs 2) ≤ 2147483647 := (by have u0 := zbnd (xs 2); have u1 := (not_congr (zi_eq _ _)).mp c1_; have u2 : (0 : Int32).toInt = 0 := (by decide); omega)
    refine lv_iconst (v := 1) hx hb dL_law_314 (by decide) ?_
    refine lv_goto (tgt := 319) hx hb dL_law_315 (by decide) ?_
    refine zgo_i (wr := [(a1, .inr (9, [.int 0, w11, w12, w13, w14, w15, w16, w17, w18, w19, w20, w21, w22, w23, w24, w25, w26, w27, w28, w29, w30, w31, w32, w33, w34, w35, w36, w37, w38, w39, w40, w41, w42, w43, w44, w45, w46, w47, w48, w49, w50, w51, w52, w53, w54, w55, w56, w57, w58, w59, w60, w61, w62, w63, w64, w65, w66, w67, w68, w69, w70, w71, w72, w73, w74, w75, w76, w77, w78, w79, w80, w81, w82, w83, w84, w85]))]) (zrunV (As := [.int (xs 1), .int 1]) (rest := []) ⟨hx, hb, hml, hown, ht⟩ (zc_X9_put_1 l D y a0 (xs 1) w2 w3 w4 a5 w6 w7 w8 w9 w10 w86 w87 w88 w89 w90 w91 w92 w93 w94 w95 w96) (cwV 2 ht (zgV zm_414 zm_415 zm_416 zm_2 zm_417) rfl rfl rfl (by decide +kernel) ⟨(Nat.le_of_ble_eq_true rfl), (Nat.le_of_ble_eq_true rfl)⟩) hK hE hS hA hW [0, 2] (by decide) rfl 0 rfl rfl rfl rfl hl.1 rfl (Nat.le_of_ble_eq_true rfl) dL_law_319 (Nat.le_of_ble_eq_true rfl) (Nat.le_of_ble_eq_true rfl)) hS hA hW [0, 2] [1] rfl rfl (by decide) (by decide) (fun r8_ u H locs hw hW hS => ?_)
    have hW : zPD D _ [(a1, .inr (9, [.int 0, w11, w12, w13, w14, w15, w16, w17, w18, w19, w20, w21, w22, w23, w24, w25, w26, w27, w28, w29, w30, w31, w32, w33, w34, w35, w36, w37, w38, w39, w40, w41, w42, w43, w44, w45, w46, w47, w48, w49, w50, w51, w52, w53, w54, w55, w56, w57, w58, w59, w60, w61, w62, w63, w64, w65, w66, w67, w68, w69, w70, w71, w72, w73, w74, w75, w76, w77, w78, w79, w80, w81, w82, w83, w84, w85]))] H := hW
    have hw : r8_ = (-1) := hw
    subst hw
    refine lv_aload_n hx hb dL_law_322 rfl (lv_at hl 1 rfl) ?_
    refine lv_aload_n hx hb dL_law_323 rfl (lv_at hl 3 rfl) ?_
    refine lv_iload_n hx hb dL_law_324 rfl (lv_at hl 0 rfl) ?_
    refine lv_iconst (v := 1) hx hb dL_law_325 (by decide) ?_
    refine lv_iadd hx hb dL_law_326 ?_
    refine ztop (w := .int 1) (congrArg Value.int (by decide)) ?_
    refine va_sld hx hb hX hbl hbA hS (by unfold vp_in; decide) dL_law_327 ?_
    refine ztop (w := .int (xs 1)) rfl ?_
    refine lv_aload_n hx hb dL_law_328 rfl (lv_at hl 3 rfl) ?_
    refine lv_iload_n hx hb dL_law_329 rfl (lv_at hl 0 rfl) ?_
    refine lv_iconst (v := 2) hx hb dL_law_330 (by decide) ?_
    refine lv_iadd hx hb dL_law_331 ?_
    refine ztop (w := .int 2) (congrArg Value.int (by decide)) ?_
    refine va_sld hx hb hX hbl hbA hS (by unfold vp_in; decide) dL_law_332 ?_
    refine ztop (w := .int (xs 2)) rfl ?_
    refine lv_if_eq (tgt := 340) hx hb dL_law_333 (by decide) (fun c9_ => absurd c9_ c1_) (fun c9_ => ?_)
    refine lv_iconst (v := 1) hx hb dL_law_336 (by decide) ?_
    refine lv_goto (tgt := 341) hx hb dL_law_337 (by decide) ?_
    refine zgo_i (wr := []) (zrunV (As := [.int (xs 1), .int 1]) (rest := [.int (-1)]) ⟨hx, hb, hml, hown, ht⟩ (zc_X10_put_1 l D y a1 (xs 1) w11 w12 w13 w14 w15 w16 w17 w18 w19 w20 w21 w22 w23 w24 w25 w26 w27 w28 w29 w30 w31 w32 w33 w34 w35 w36 w37 w38 w39 w40 w41 w42 w43 w44 w45 w46 w47 w48 w49 w50 w51 w52 w53 w54 w55 w56 w57 w58 w59 w60 w61 w62 w63 w64 w65 w66 w67 w68 w69 w70 w71 w72 w73 w74 w75 w76 w77 w78 w79 w80 w81 w82 w83 w84 w85) (cwV 2 ht (zgV zm_418 zm_419 zm_420 zm_5 zm_421) rfl rfl rfl (by decide +kernel) ⟨(Nat.le_of_ble_eq_true rfl), (Nat.le_of_ble_eq_true rfl)⟩) hK hE hS hA hW [0] (by decide) rfl 0 rfl rfl rfl rfl hl.1 rfl (Nat.le_of_ble_eq_true rfl) dL_law_341 (Nat.le_of_ble_eq_true rfl) (Nat.le_of_ble_eq_true rfl)) hS hA hW [0] [] rfl rfl (by decide) (by decide) (fun r10_ u H locs hw hW hS => ?_)
    have hW : zPD D _ [] H := hW
    have hw : r10_ = (-1) := hw
    subst hw
    refine lv_icmp_eq (tgt := 1340) hx hb dL_law_344 (by decide) (fun c11_ => ?_) (fun c11_ => absurd (by decide) c11_)
    exact zl_end l C0 hS (lv_sub hl [0, 3] rfl)
set_option maxHeartbeats 8000000 in
set_option maxRecDepth 100000 in
theorem zl_case_3 {p : Program} {e : Env} {s : State} {m : MethodId} {below : List Frame} {meth : Method} {c : Code} (l : Launch) {b : Nat} {xs : Nat → Int32} (C0 : lw_At p s m meth c b 6 xs) (D : va_G) (y : Nat → ClassId) (a0 : Nat) (a1 : Nat) (w2 : Value) (w3 : Value) (w4 : Value) (a5 : Nat) (w6 : Value) (w7 : Value) (w8 : Value) (w9 : Value) (w10 : Value) (w11 : Value) (w12 : Value) (w13 : Value) (w14 : Value) (w15 : Value) (w16 : Value) (w17 : Value) (w18 : Value) (w19 : Value) (w20 : Value) (w21 : Value) (w22 : Value) (w23 : Value) (w24 : Value) (w25 : Value) (w26 : Value) (w27 : Value) (w28 : Value) (w29 : Value) (w30 : Value) (w31 : Value) (w32 : Value) (w33 : Value) (w34 : Value) (w35 : Value) (w36 : Value) (w37 : Value) (w38 : Value) (w39 : Value) (w40 : Value) (w41 : Value) (w42 : Value) (w43 : Value) (w44 : Value) (w45 : Value) (w46 : Value) (w47 : Value) (w48 : Value) (w49 : Value) (w50 : Value) (w51 : Value) (w52 : Value) (w53 : Value) (w54 : Value) (w55 : Value) (w56 : Value) (w57 : Value) (w58 : Value) (w59 : Value) (w60 : Value) (w61 : Value) (w62 : Value) (w63 : Value) (w64 : Value) (w65 : Value) (w66 : Value) (w67 : Value) (w68 : Value) (w69 : Value) (w70 : Value) (w71 : Value) (w72 : Value) (w73 : Value) (w74 : Value) (w75 : Value) (w76 : Value) (w77 : Value) (w78 : Value) (w79 : Value) (w80 : Value) (w81 : Value) (w82 : Value) (w83 : Value) (w84 : Value) (w85 : Value) (w86 : Value) (w87 : Value) (w88 : Value) (w89 : Value) (w90 : Value) (w91 : Value) (w92 : Value) (w93 : Value) (w94 : Value) (w95 : Value) (w96 : Value) (hK : zK D y s) (hE : zE y (fun q : Nat => s.heap.size ≤ q) s s.heap) {H : Heap} {locs : List Loc} {ls : Array Slot} (hS : va_S (fun q : Nat => s.heap.size ≤ q) s.heap H locs) (hW : zPD D (fun q : Nat => s.heap.size ≤ q) [(a0, .inr (8, [w2, w3, w4, .ref a5, w6, w7, w8, w9, w10])), (a1, .inr (9, [.int 0, w11, w12, w13, w14, w15, w16, w17, w18, w19, w20, w21, w22, w23, w24, w25, w26, w27, w28, w29, w30, w31, w32, w33, w34, w35, w36, w37, w38, w39, w40, w41, w42, w43, w44, w45, w46, w47, w48, w49, w50, w51, w52, w53, w54, w55, w56, w57, w58, w59, w60, w61, w62, w63, w64, w65, w66, w67, w68, w69, w70, w71, w72, w73, w74, w75, w76, w77, w78, w79, w80, w81, w82, w83, w84, w85])), (a5, .inr (6, [w86, .int 0, w87, w88, w89, w90, w91, w92, w93, w94, w95, w96]))] H) (hl : lv_has ls 4 [(3, .int 0), (2, .ref a1), (1, .ref a0), (0, .ref b)]) : W p l e room_1 s m #[Value.ref b] below meth c H locs 1000 20000 (lw_Z below #[Value.ref b] s) (F0 m 349 ls []) := by
  obtain ⟨hx, hb, hr, hml, hown, hts, hX, hbl, hlocks, hgv⟩ := id C0
  have ht : ∀ w ∈ zT, w.before #[Value.ref b] s = true := fun w h => hts w (zgin w h).1
  have hown : s.vm.findClass RL = some m.cls := hown
  have hA : ∀ q : Nat, s.heap.size ≤ q → (fun q : Nat => s.heap.size ≤ q) q := fun _ h => h
  have hbA : ¬ (fun q : Nat => s.heap.size ≤ q) b := Nat.not_le.mpr hbl
  refine lv_aload_n hx hb dL_law_349 rfl (lv_at hl 2 rfl) ?_
  refine lv_aload_n hx hb dL_law_350 rfl (lv_at hl 3 rfl) ?_
  refine lv_iload_n hx hb dL_law_351 rfl (lv_at hl 0 rfl) ?_
  refine lv_iconst (v := 1) hx hb dL_law_352 (by decide) ?_
  refine lv_iadd hx hb dL_law_353 ?_
  refine ztop (w := .int 1) (congrArg Value.int (by decide)) ?_
  refine va_sld hx hb hX hbl hbA hS (by unfold vp_in; decide) dL_law_354 ?_
  refine ztop (w := .int (xs 1)) rfl ?_
  refine lv_aload_n hx hb dL_law_355 rfl (lv_at hl 3 rfl) ?_
  refine lv_iload_n hx hb dL_law_356 rfl (lv_at hl 0 rfl) ?_
  refine lv_iconst (v := 2) hx hb dL_law_357 (by decide) ?_
  refine lv_iadd hx hb dL_law_358 ?_
  refine ztop (w := .int 2) (congrArg Value.int (by decide)) ?_
  refine va_sld hx hb hX hbl hbA hS (by unfold vp_in; decide) dL_law_359 ?_
  refine ztop (w := .int (xs 2)) rfl ?_
  refine lv_aload_n hx hb dL_law_360 rfl (lv_at hl 3 rfl) ?_
  refine lv_iload_n hx hb dL_law_361 rfl (lv_at hl 0 rfl) ?_
  refine lv_iconst (v := 3) hx hb dL_law_362 (by decide) ?_
  refine lv_iadd hx hb dL_law_363 ?_
  refine ztop (w := .int 3) (congrArg Value.int (by decide)) ?_
  refine va_sld hx hb hX hbl hbA hS (by unfold vp_in; decide) dL_law_364 ?_
  refine ztop (w := .int (xs 3)) rfl ?_
  refine zgo_i (wr := [(a1, .inr (9, [.int 0, w11, w12, w13, w14, w15, w16, w17, w18, w19, w20, w21, w22, w23, w24, w25, w26, w27, w28, w29, w30, w31, w32, w33, w34, w35, w36, w37, w38, w39, w40, w41, w42, w43, w44, w45, w46, w47, w48, w49, w50, w51, w52, w53, w54, w55, w56, w57, w58, w59, w60, w61, w62, w63, w64, w65, w66, w67, w68, w69, w70, w71, w72, w73, w74, w75, w76, w77, w78, w79, w80, w81, w82, w83, w84, w85]))]) (zrunV (As := [.int (xs 1), .int (xs 2), .int (xs 3)]) (rest := []) ⟨hx, hb, hml, hown, ht⟩ (zc_X9_row_0 l D y a0 (xs 1) (xs 2) (xs 3) w2 w3 w4 a5 w6 w7 w8 w9 w10 w86 w87 w88 w89 w90 w91 w92 w93 w94 w95 w96) (cwV 3 ht (zgV zm_422 zm_423 zm_424 zm_2 zm_425) rfl rfl rfl (by decide +kernel) ⟨(Nat.le_of_ble_eq_true rfl), (Nat.le_of_ble_eq_true rfl)⟩) hK hE hS hA hW [0, 2] (by decide) rfl 0 rfl rfl rfl rfl hl.1 rfl (Nat.le_of_ble_eq_true rfl) dL_law_365 (Nat.le_of_ble_eq_true rfl) (Nat.le_of_ble_eq_true rfl)) hS hA hW [0, 2] [1] rfl rfl (by decide) (by decide) (fun r1_ u H locs hw hW hS => ?_)
  have hW : zPD D _ [(a1, .inr (9, [.int 0, w11, w12, w13, w14, w15, w16, w17, w18, w19, w20, w21, w22, w23, w24, w25, w26, w27, w28, w29, w30, w31, w32, w33, w34, w35, w36, w37, w38, w39, w40, w41, w42, w43, w44, w45, w46, w47, w48, w49, w50, w51, w52, w53, w54, w55, w56, w57, w58, w59, w60, w61, w62, w63, w64, w65, w66, w67, w68, w69, w70, w71, w72, w73, w74, w75, w76, w77, w78, w79, w80, w81, w82, w83, w84, w85]))] H := hW
  have hw : r1_ = (-1) := hw
  subst hw
  refine lv_aload_n hx hb dL_law_368 rfl (lv_at hl 1 rfl) ?_
  refine lv_aload_n hx hb dL_law_369 rfl (lv_at hl 3 rfl) ?_
  refine lv_iload_n hx hb dL_law_370 rfl (lv_at hl 0 rfl) ?_
  refine lv_iconst (v := 1) hx hb dL_law_371 (by decide) ?_
  refine lv_iadd hx hb dL_law_372 ?_
  refine ztop (w := .int 1) (congrArg Value.int (by decide)) ?_
  refine va_sld hx hb hX hbl hbA hS (by unfold vp_in; decide) dL_law_373 ?_
  refine ztop (w := .int (xs 1)) rfl ?_
  refine lv_aload_n hx hb dL_law_374 rfl (lv_at hl 3 rfl) ?_
  refine lv_iload_n hx hb dL_law_375 rfl (lv_at hl 0 rfl) ?_
  refine lv_iconst (v := 2) hx hb dL_law_376 (by decide) ?_
  refine lv_iadd hx hb dL_law_377 ?_
  refine ztop (w := .int 2) (congrArg Value.int (by decide)) ?_
  refine va_sld hx hb hX hbl hbA hS (by unfold vp_in; decide) dL_law_378 ?_
  refine ztop (w := .int (xs 2)) rfl ?_
  refine lv_aload_n hx hb dL_law_379 rfl (lv_at hl 3 rfl) ?_
  refine lv_iload_n hx hb dL_law_380 rfl (lv_at hl 0 rfl) ?_
  refine lv_iconst (v := 3) hx hb dL_law_381 (by decide) ?_
  refine lv_iadd hx hb dL_law_382 ?_
  refine ztop (w := .int 3) (congrArg Value.int (by decide)) ?_
  refine va_sld hx hb hX hbl hbA hS (by unfold vp_in; decide) dL_law_383 ?_
  refine ztop (w := .int (xs 3)) rfl ?_
  refine zgo_i (wr := []) (zrunV (As := [.int (xs 1), .int (xs 2), .int (xs 3)]) (rest := [.int (-1)]) ⟨hx, hb, hml, hown, ht⟩ (zc_X10_row_0 l D y a1 (xs 1) (xs 2) (xs 3) w11 w12 w13 w14 w15 w16 w17 w18 w19 w20 w21 w22 w23 w24 w25 w26 w27 w28 w29 w30 w31 w32 w33 w34 w35 w36 w37 w38 w39 w40 w41 w42 w43 w44 w45 w46 w47 w48 w49 w50 w51 w52 w53 w54 w55 w56 w57 w58 w59 w60 w61 w62 w63 w64 w65 w66 w67 w68 w69 w70 w71 w72 w73 w74 w75 w76 w77 w78 w79 w80 w81 w82 w83 w84 w85) (cwV 3 ht (zgV zm_427 zm_428 zm_429 zm_5 zm_430) rfl rfl rfl (by decide +kernel) ⟨(Nat.le_of_ble_eq_true rfl), (Nat.le_of_ble_eq_true rfl)⟩) hK hE hS hA hW [0] (by decide) rfl 0 rfl rfl rfl rfl hl.1 rfl (Nat.le_of_ble_eq_true rfl) dL_law_384 (Nat.le_of_ble_eq_true rfl) (Nat.le_of_ble_eq_true rfl)) hS hA hW [0] [] rfl rfl (by decide) (by decide) (fun r2_ u H locs hw hW hS => ?_)
  have hW : zPD D _ [] H := hW
  have hw : r2_ = (-1) := hw
  subst hw
  refine lv_icmp_eq (tgt := 1340) hx hb dL_law_387 (by decide) (fun c3_ => ?_) (fun c3_ => absurd (by decide) c3_)
  exact zl_end l C0 hS (lv_sub hl [0, 3] rfl)
set_option maxHeartbeats 8000000 in
set_option maxRecDepth 100000 in
theorem zl_case_4 {p : Program} {e : Env} {s : State} {m : MethodId} {below : List Frame} {meth : Method} {c : Code} (l : Launch) {b : Nat} {xs : Nat → Int32} (C0 : lw_At p s m meth c b 6 xs) (D : va_G) (y : Nat → ClassId) (a0 : Nat) (a1 : Nat) (w2 : Value) (w3 : Value) (w4 : Value) (a5 : Nat) (w6 : Value) (w7 : Value) (w8 : Value) (w9 : Value) (w10 : Value) (w11 : Value) (w12 : Value) (w13 : Value) (w14 : Value) (w15 : Value) (w16 : Value) (w17 : Value) (w18 : Value) (w19 : Value) (w20 : Value) (w21 : Value) (w22 : Value) (w23 : Value) (w24 : Value) (w25 : Value) (w26 : Value) (w27 : Value) (w28 : Value) (w29 : Value) (w30 : Value) (w31 : Value) (w32 : Value) (w33 : Value) (w34 : Value) (w35 : Value) (w36 : Value) (w37 : Value) (w38 : Value) (w39 : Value) (w40 : Value) (w41 : Value) (w42 : Value) (w43 : Value) (w44 : Value) (w45 : Value) (w46 : Value) (w47 : Value) (w48 : Value) (w49 : Value) (w50 : Value) (w51 : Value) (w52 : Value) (w53 : Value) (w54 : Value) (w55 : Value) (w56 : Value) (w57 : Value) (w58 : Value) (w59 : Value) (w60 : Value) (w61 : Value) (w62 : Value) (w63 : Value) (w64 : Value) (w65 : Value) (w66 : Value) (w67 : Value) (w68 : Value) (w69 : Value) (w70 : Value) (w71 : Value) (w72 : Value) (w73 : Value) (w74 : Value) (w75 : Value) (w76 : Value) (w77 : Value) (w78 : Value) (w79 : Value) (w80 : Value) (w81 : Value) (w82 : Value) (w83 : Value) (w84 : Value) (w85 : Value) (w86 : Value) (w87 : Value) (w88 : Value) (w89 : Value) (w90 : Value) (w91 : Value) (w92 : Value) (w93 : Value) (w94 : Value) (hK : zK D y s) (hE : zE y (fun q : Nat => s.heap.size ≤ q) s s.heap) {H : Heap} {locs : List Loc} {ls : Array Slot} (hS : va_S (fun q : Nat => s.heap.size ≤ q) s.heap H locs) (hW : zPD D (fun q : Nat => s.heap.size ≤ q) [(a0, .inr (8, [w2, w3, w4, .ref a5, w6, w7, w8, w9, w10])), (a1, .inr (9, [w11, w12, w13, .int 20, .int 0, w14, w15, w16, w17, w18, w19, w20, w21, w22, w23, w24, w25, w26, w27, w28, w29, w30, w31, w32, w33, w34, w35, w36, w37, w38, w39, w40, w41, w42, w43, w44, w45, w46, w47, w48, w49, w50, w51, w52, w53, w54, w55, w56, w57, w58, w59, w60, w61, w62, w63, w64, w65, w66, w67, w68, w69, w70, w71, w72, w73, w74, w75, w76, w77, w78, w79, w80, w81, w82, w83, w84])), (a5, .inr (6, [w85, w86, .int 20, .int 0, w87, w88, w89, w90, w91, w92, w93, w94]))] H) (hl : lv_has ls 4 [(3, .int 0), (2, .ref a1), (1, .ref a0), (0, .ref b)]) : W p l e room_1 s m #[Value.ref b] below meth c H locs 1000 20000 (lw_Z below #[Value.ref b] s) (F0 m 392 ls []) := by
  obtain ⟨hx, hb, hr, hml, hown, hts, hX, hbl, hlocks, hgv⟩ := id C0
  have ht : ∀ w ∈ zT, w.before #[Value.ref b] s = true := fun w h => hts w (zgin w h).1
  have hown : s.vm.findClass RL = some m.cls := hown
  have hA : ∀ q : Nat, s.heap.size ≤ q → (fun q : Nat => s.heap.size ≤ q) q := fun _ h => h
  have hbA : ¬ (fun q : Nat => s.heap.size ≤ q) b := Nat.not_le.mpr hbl
  refine lv_aload_n hx hb dL_law_392 rfl (lv_at hl 2 rfl) ?_
  refine lv_aload_n hx hb dL_law_393 rfl (lv_at hl 3 rfl) ?_
  refine lv_iload_n hx hb dL_law_394 rfl (lv_at hl 0 rfl) ?_
  refine lv_iconst (v := 1) hx hb dL_law_395 (by decide) ?_
  refine lv_iadd hx hb dL_law_396 ?_
  refine ztop (w := .int 1) (congrArg Value.int (by decide)) ?_
  refine va_sld hx hb hX hbl hbA hS (by unfold vp_in; decide) dL_law_397 ?_
  refine ztop (w := .int (xs 1)) rfl ?_
  refine lv_aload_n hx hb dL_law_398 rfl (lv_at hl 3 rfl) ?_
  refine lv_iload_n hx hb dL_law_399 rfl (lv_at hl 0 rfl) ?_
  refine lv_iconst (v := 2) hx hb dL_law_400 (by decide) ?_
  refine lv_iadd hx hb dL_law_401 ?_
  refine ztop (w := .int 2) (congrArg Value.int (by decide)) ?_
  refine va_sld hx hb hX hbl hbA hS (by unfold vp_in; decide) dL_law_402 ?_
  refine ztop (w := .int (xs 2)) rfl ?_
  refine zgo_i (wr := [(a1, .inr (9, [w11, w12, w13, .int 20, .int 0, w14, w15, w16, w17, w18, w19, w20, w21, w22, w23, w24, w25, w26, w27, w28, w29, w30, w31, w32, w33, w34, w35, w36, w37, w38, w39, w40, w41, w42, w43, w44, w45, w46, w47, w48, w49, w50, w51, w52, w53, w54, w55, w56, w57, w58, w59, w60, w61, w62, w63, w64, w65, w66, w67, w68, w69, w70, w71, w72, w73, w74, w75, w76, w77, w78, w79, w80, w81, w82, w83, w84]))]) (zrunV (As := [.int (xs 1), .int (xs 2)]) (rest := []) ⟨hx, hb, hml, hown, ht⟩ (zc_X9_storm_0 l D y a0 (xs 1) (xs 2) w2 w3 w4 a5 w6 w7 w8 w9 w10 w85 w86 w87 w88 w89 w90 w91 w92 w93 w94) (cwV 2 ht (zgV zm_431 zm_432 zm_433 zm_2 zm_434) rfl rfl rfl (by decide +kernel) ⟨(Nat.le_of_ble_eq_true rfl), (Nat.le_of_ble_eq_true rfl)⟩) hK hE hS hA hW [0, 2] (by decide) rfl 0 rfl rfl rfl rfl hl.1 rfl (Nat.le_of_ble_eq_true rfl) dL_law_403 (Nat.le_of_ble_eq_true rfl) (Nat.le_of_ble_eq_true rfl)) hS hA hW [0, 2] [1] rfl rfl (by decide) (by decide) (fun r1_ u H locs hw hW hS => ?_)
  have hW : zPD D _ [(a1, .inr (9, [w11, w12, w13, .int 20, .int 0, w14, w15, w16, w17, w18, w19, w20, w21, w22, w23, w24, w25, w26, w27, w28, w29, w30, w31, w32, w33, w34, w35, w36, w37, w38, w39, w40, w41, w42, w43, w44, w45, w46, w47, w48, w49, w50, w51, w52, w53, w54, w55, w56, w57, w58, w59, w60, w61, w62, w63, w64, w65, w66, w67, w68, w69, w70, w71, w72, w73, w74, w75, w76, w77, w78, w79, w80, w81, w82, w83, w84]))] H := hW
  have hw : r1_ = (if (xs 2) < 0 then (-1) else (if 3 < (xs 2) then (-1) else (if (xs 1) < 0 then (-2) else (if 99 < (xs 1) then (-2) else 20)))) := hw
  by_cases c2_ : (xs 2) < 0
  · have b3_ : (-2147483648) ≤ Int32.toInt (xs 2) ∧ Int32.toInt (xs 2) ≤ (-1) := (by have u0 := zbnd (xs 2); have u1 := (zi_lt _ _).mp c2_; have u2 : (0 : Int32).toInt = 0 := (by decide); omega)
    rw [if_pos c2_] at hw
    subst hw
    refine lv_aload_n hx hb dL_law_406 rfl (lv_at hl 1 rfl) ?_
    refine lv_aload_n hx hb dL_law_407 rfl (lv_at hl 3 rfl) ?_
    refine lv_iload_n hx hb dL_law_408 rfl (lv_at hl 0 rfl) ?_
    refine lv_iconst (v := 1) hx hb dL_law_409 (by decide) ?_
    refine lv_iadd hx hb dL_law_410 ?_
    refine ztop (w := .int 1) (congrArg Value.int (by decide)) ?_
    refine va_sld hx hb hX hbl hbA hS (by unfold vp_in; decide) dL_law_411 ?_
    refine ztop (w := .int (xs 1)) rfl ?_
    refine lv_aload_n hx hb dL_law_412 rfl (lv_at hl 3 rfl) ?_
    refine lv_iload_n hx hb dL_law_413 rfl (lv_at hl 0 rfl) ?_
    refine lv_iconst (v := 2) hx hb dL_law_414 (by decide) ?_
    refine lv_iadd hx hb dL_law_415 ?_
    refine ztop (w := .int 2) (congrArg Value.int (by decide)) ?_
    refine va_sld hx hb hX hbl hbA hS (by unfold vp_in; decide) dL_law_416 ?_
    refine ztop (w := .int (xs 2)) rfl ?_
    refine zgo_i (wr := []) (zrunV (As := [.int (xs 1), .int (xs 2)]) (rest := [.int (-1)]) ⟨hx, hb, hml, hown, ht⟩ (zc_X10_storm_0 l D y a1 (xs 1) (xs 2) w11 w12 w13 w14 w15 w16 w17 w18 w19 w20 w21 w22 w23 w24 w25 w26 w27 w28 w29 w30 w31 w32 w33 w34 w35 w36 w37 w38 w39 w40 w41 w42 w43 w44 w45 w46 w47 w48 w49 w50 w51 w52 w53 w54 w55 w56 w57 w58 w59 w60 w61 w62 w63 w64 w65 w66 w67 w68 w69 w70 w71 w72 w73 w74 w75 w76 w77 w78 w79 w80 w81 w82 w83 w84) (cwV 2 ht (zgV zm_437 zm_438 zm_439 zm_5 zm_440) rfl rfl rfl (by decide +kernel) ⟨(Nat.le_of_ble_eq_true rfl), (Nat.le_of_ble_eq_true rfl)⟩) hK hE hS hA hW [0] (by decide) rfl 0 rfl rfl rfl rfl hl.1 rfl (Nat.le_of_ble_eq_true rfl) dL_law_417 (Nat.le_of_ble_eq_true rfl) (Nat.le_of_ble_eq_true rfl)) hS hA hW [0] [] rfl rfl (by decide) (by decide) (fun r4_ u H locs hw hW hS => ?_)
    have hW : zPD D _ [] H := hW
    have hw : r4_ = (if (xs 2) < 0 then (-1) else (if 3 < (xs 2) then (-1) else (if (xs 1) < 0 then (-2) else (if 99 < (xs 1) then (-2) else 20)))) := hw
    rw [if_pos c2_] at hw
    subst hw
    refine lv_icmp_eq (tgt := 1340) hx hb dL_law_420 (by decide) (fun c5_ => ?_) (fun c5_ => absurd (by decide) c5_)
    exact zl_end l C0 hS (lv_sub hl [0, 3] rfl)
  · have b6_ : 0 ≤ Int32.toInt (xs 2) ∧ Int32.toInt (xs 2) ≤ 2147483647 := (by have u0 := zbnd (xs 2); have u1 := (not_congr (zi_lt _ _)).mp c2_; have u2 : (0 : Int32).toInt = 0 := (by decide); omega)
    rw [if_neg c2_] at hw
    by_cases c7_ : 3 < (xs 2)
    · have b8_ : 4 ≤ Int32.toInt (xs 2) ∧ Int32.toInt (xs 2) ≤ 2147483647 := (by have u0 := b6_; have u1 := (zi_lt _ _).mp c7_; have u2 : (3 : Int32).toInt = 3 := (by decide); omega)
      rw [if_pos c7_] at hw
      subst hw
      refine lv_aload_n hx hb dL_law_406 rfl (lv_at hl 1 rfl) ?_
      refine lv_aload_n hx hb dL_law_407 rfl (lv_at hl 3 rfl) ?_
      refine lv_iload_n hx hb dL_law_408 rfl (lv_at hl 0 rfl) ?_
      refine lv_iconst (v := 1) hx hb dL_law_409 (by decide) ?_
      refine lv_iadd hx hb dL_law_410 ?_
      refine ztop (w := .int 1) (congrArg Value.int (by decide)) ?_
      refine va_sld hx hb hX hbl hbA hS (by unfold vp_in; decide) dL_law_411 ?_
      refine ztop (w := .int (xs 1)) rfl ?_
      refine lv_aload_n hx hb dL_law_412 rfl (lv_at hl 3 rfl) ?_
      refine lv_iload_n hx hb dL_law_413 rfl (lv_at hl 0 rfl) ?_
      refine lv_iconst (v := 2) hx hb dL_law_414 (by decide) ?_
      refine lv_iadd hx hb dL_law_415 ?_
      refine ztop (w := .int 2) (congrArg Value.int (by decide)) ?_
      refine va_sld hx hb hX hbl hbA hS (by unfold vp_in; decide) dL_law_416 ?_
      refine ztop (w := .int (xs 2)) rfl ?_
      refine zgo_i (wr := []) (zrunV (As := [.int (xs 1), .int (xs 2)]) (rest := [.int (-1)]) ⟨hx, hb, hml, hown, ht⟩ (zc_X10_storm_0 l D y a1 (xs 1) (xs 2) w11 w12 w13 w14 w15 w16 w17 w18 w19 w20 w21 w22 w23 w24 w25 w26 w27 w28 w29 w30 w31 w32 w33 w34 w35 w36 w37 w38 w39 w40 w41 w42 w43 w44 w45 w46 w47 w48 w49 w50 w51 w52 w53 w54 w55 w56 w57 w58 w59 w60 w61 w62 w63 w64 w65 w66 w67 w68 w69 w70 w71 w72 w73 w74 w75 w76 w77 w78 w79 w80 w81 w82 w83 w84) (cwV 2 ht (zgV zm_437 zm_438 zm_439 zm_5 zm_440) rfl rfl rfl (by decide +kernel) ⟨(Nat.le_of_ble_eq_true rfl), (Nat.le_of_ble_eq_true rfl)⟩) hK hE hS hA hW [0] (by decide) rfl 0 rfl rfl rfl rfl hl.1 rfl (Nat.le_of_ble_eq_true rfl) dL_law_417 (Nat.le_of_ble_eq_true rfl) (Nat.le_of_ble_eq_true rfl)) hS hA hW [0] [] rfl rfl (by decide) (by decide) (fun r9_ u H locs hw hW hS => ?_)
      have hW : zPD D _ [] H := hW
      have hw : r9_ = (if (xs 2) < 0 then (-1) else (if 3 < (xs 2) then (-1) else (if (xs 1) < 0 then (-2) else (if 99 < (xs 1) then (-2) else 20)))) := hw
      rw [if_neg c2_] at hw
      rw [if_pos c7_] at hw
      subst hw
      refine lv_icmp_eq (tgt := 1340) hx hb dL_law_420 (by decide) (fun c10_ => ?_) (fun c10_ => absurd (by decide) c10_)
      exact zl_end l C0 hS (lv_sub hl [0, 3] rfl)
    · have b11_ : 0 ≤ Int32.toInt (xs 2) ∧ Int32.toInt (xs 2) ≤ 3 := (by have u0 := b6_; have u1 := (not_congr (zi_lt _ _)).mp c7_; have u2 : (3 : Int32).toInt = 3 := (by decide); omega)
      rw [if_neg c7_] at hw
      by_cases c12_ : (xs 1) < 0
      · have b13_ : (-2147483648) ≤ Int32.toInt (xs 1) ∧ Int32.toInt (xs 1) ≤ (-1) := (by have u0 := zbnd (xs 1); have u1 := (zi_lt _ _).mp c12_; have u2 : (0 : Int32).toInt = 0 := (by decide); omega)
        rw [if_pos c12_] at hw
        subst hw
        refine lv_aload_n hx hb dL_law_406 rfl (lv_at hl 1 rfl) ?_
        refine lv_aload_n hx hb dL_law_407 rfl (lv_at hl 3 rfl) ?_
        refine lv_iload_n hx hb dL_law_408 rfl (lv_at hl 0 rfl) ?_
        refine lv_iconst (v := 1) hx hb dL_law_409 (by decide) ?_
        refine lv_iadd hx hb dL_law_410 ?_
        refine ztop (w := .int 1) (congrArg Value.int (by decide)) ?_
        refine va_sld hx hb hX hbl hbA hS (by unfold vp_in; decide) dL_law_411 ?_
        refine ztop (w := .int (xs 1)) rfl ?_
        refine lv_aload_n hx hb dL_law_412 rfl (lv_at hl 3 rfl) ?_
        refine lv_iload_n hx hb dL_law_413 rfl (lv_at hl 0 rfl) ?_
        refine lv_iconst (v := 2) hx hb dL_law_414 (by decide) ?_
        refine lv_iadd hx hb dL_law_415 ?_
        refine ztop (w := .int 2) (congrArg Value.int (by decide)) ?_
        refine va_sld hx hb hX hbl hbA hS (by unfold vp_in; decide) dL_law_416 ?_
        refine ztop (w := .int (xs 2)) rfl ?_
        refine zgo_i (wr := []) (zrunV (As := [.int (xs 1), .int (xs 2)]) (rest := [.int (-2)]) ⟨hx, hb, hml, hown, ht⟩ (zc_X10_storm_0 l D y a1 (xs 1) (xs 2) w11 w12 w13 w14 w15 w16 w17 w18 w19 w20 w21 w22 w23 w24 w25 w26 w27 w28 w29 w30 w31 w32 w33 w34 w35 w36 w37 w38 w39 w40 w41 w42 w43 w44 w45 w46 w47 w48 w49 w50 w51 w52 w53 w54 w55 w56 w57 w58 w59 w60 w61 w62 w63 w64 w65 w66 w67 w68 w69 w70 w71 w72 w73 w74 w75 w76 w77 w78 w79 w80 w81 w82 w83 w84) (cwV 2 ht (zgV zm_437 zm_438 zm_439 zm_5 zm_440) rfl rfl rfl (by decide +kernel) ⟨(Nat.le_of_ble_eq_true rfl), (Nat.le_of_ble_eq_true rfl)⟩) hK hE hS hA hW [0] (by decide) rfl 0 rfl rfl rfl rfl hl.1 rfl (Nat.le_of_ble_eq_true rfl) dL_law_417 (Nat.le_of_ble_eq_true rfl) (Nat.le_of_ble_eq_true rfl)) hS hA hW [0] [] rfl rfl (by decide) (by decide) (fun r14_ u H locs hw hW hS => ?_)
        have hW : zPD D _ [] H := hW
        have hw : r14_ = (if (xs 2) < 0 then (-1) else (if 3 < (xs 2) then (-1) else (if (xs 1) < 0 then (-2) else (if 99 < (xs 1) then (-2) else 20)))) := hw
        rw [if_neg c2_] at hw
        rw [if_neg c7_] at hw
        rw [if_pos c12_] at hw
        subst hw
        refine lv_icmp_eq (tgt := 1340) hx hb dL_law_420 (by decide) (fun c15_ => ?_) (fun c15_ => absurd (by decide) c15_)
        exact zl_end l C0 hS (lv_sub hl [0, 3] rfl)
      · have b16_ : 0 ≤ Int32.toInt (xs 1) ∧ Int32.toInt (xs 1) ≤ 2147483647 := (by have u0 := zbnd (xs 1); have u1 := (not_congr (zi_lt _ _)).mp c12_; have u2 : (0 : Int32).toInt = 0 := (by decide); omega)
        rw [if_neg c12_] at hw
        by_cases c17_ : 99 < (xs 1)
        · have b18_ : 100 ≤ Int32.toInt (xs 1) ∧ Int32.toInt (xs 1) ≤ 2147483647 := (by have u0 := b16_; have u1 := (zi_lt _ _).mp c17_; have u2 : (99 : Int32).toInt = 99 := (by decide); omega)
          rw [if_pos c17_] at hw
          subst hw
          refine lv_aload_n hx hb dL_law_406 rfl (lv_at hl 1 rfl) ?_
          refine lv_aload_n hx hb dL_law_407 rfl (lv_at hl 3 rfl) ?_
          refine lv_iload_n hx hb dL_law_408 rfl (lv_at hl 0 rfl) ?_
          refine lv_iconst (v := 1) hx hb dL_law_409 (by decide) ?_
          refine lv_iadd hx hb dL_law_410 ?_
          refine ztop (w := .int 1) (congrArg Value.int (by decide)) ?_
          refine va_sld hx hb hX hbl hbA hS (by unfold vp_in; decide) dL_law_411 ?_
          refine ztop (w := .int (xs 1)) rfl ?_
          refine lv_aload_n hx hb dL_law_412 rfl (lv_at hl 3 rfl) ?_
          refine lv_iload_n hx hb dL_law_413 rfl (lv_at hl 0 rfl) ?_
          refine lv_iconst (v := 2) hx hb dL_law_414 (by decide) ?_
          refine lv_iadd hx hb dL_law_415 ?_
          refine ztop (w := .int 2) (congrArg Value.int (by decide)) ?_
          refine va_sld hx hb hX hbl hbA hS (by unfold vp_in; decide) dL_law_416 ?_
          refine ztop (w := .int (xs 2)) rfl ?_
          refine zgo_i (wr := []) (zrunV (As := [.int (xs 1), .int (xs 2)]) (rest := [.int (-2)]) ⟨hx, hb, hml, hown, ht⟩ (zc_X10_storm_0 l D y a1 (xs 1) (xs 2) w11 w12 w13 w14 w15 w16 w17 w18 w19 w20 w21 w22 w23 w24 w25 w26 w27 w28 w29 w30 w31 w32 w33 w34 w35 w36 w37 w38 w39 w40 w41 w42 w43 w44 w45 w46 w47 w48 w49 w50 w51 w52 w53 w54 w55 w56 w57 w58 w59 w60 w61 w62 w63 w64 w65 w66 w67 w68 w69 w70 w71 w72 w73 w74 w75 w76 w77 w78 w79 w80 w81 w82 w83 w84) (cwV 2 ht (zgV zm_437 zm_438 zm_439 zm_5 zm_440) rfl rfl rfl (by decide +kernel) ⟨(Nat.le_of_ble_eq_true rfl), (Nat.le_of_ble_eq_true rfl)⟩) hK hE hS hA hW [0] (by decide) rfl 0 rfl rfl rfl rfl hl.1 rfl (Nat.le_of_ble_eq_true rfl) dL_law_417 (Nat.le_of_ble_eq_true rfl) (Nat.le_of_ble_eq_true rfl)) hS hA hW [0] [] rfl rfl (by decide) (by decide) (fun r19_ u H locs hw hW hS => ?_)
          have hW : zPD D _ [] H := hW
          have hw : r19_ = (if (xs 2) < 0 then (-1) else (if 3 < (xs 2) then (-1) else (if (xs 1) < 0 then (-2) else (if 99 < (xs 1) then (-2) else 20)))) := hw
          rw [if_neg c2_] at hw
          rw [if_neg c7_] at hw
          rw [if_neg c12_] at hw
          rw [if_pos c17_] at hw
          subst hw
          refine lv_icmp_eq (tgt := 1340) hx hb dL_law_420 (by decide) (fun c20_ => ?_) (fun c20_ => absurd (by decide) c20_)
          exact zl_end l C0 hS (lv_sub hl [0, 3] rfl)
        · have b21_ : 0 ≤ Int32.toInt (xs 1) ∧ Int32.toInt (xs 1) ≤ 99 := (by have u0 := b16_; have u1 := (not_congr (zi_lt _ _)).mp c17_; have u2 : (99 : Int32).toInt = 99 := (by decide); omega)
          rw [if_neg c17_] at hw
          subst hw
          refine lv_aload_n hx hb dL_law_406 rfl (lv_at hl 1 rfl) ?_
          refine lv_aload_n hx hb dL_law_407 rfl (lv_at hl 3 rfl) ?_
          refine lv_iload_n hx hb dL_law_408 rfl (lv_at hl 0 rfl) ?_
          refine lv_iconst (v := 1) hx hb dL_law_409 (by decide) ?_
          refine lv_iadd hx hb dL_law_410 ?_
          refine ztop (w := .int 1) (congrArg Value.int (by decide)) ?_
          refine va_sld hx hb hX hbl hbA hS (by unfold vp_in; decide) dL_law_411 ?_
          refine ztop (w := .int (xs 1)) rfl ?_
          refine lv_aload_n hx hb dL_law_412 rfl (lv_at hl 3 rfl) ?_
          refine lv_iload_n hx hb dL_law_413 rfl (lv_at hl 0 rfl) ?_
          refine lv_iconst (v := 2) hx hb dL_law_414 (by decide) ?_
          refine lv_iadd hx hb dL_law_415 ?_
          refine ztop (w := .int 2) (congrArg Value.int (by decide)) ?_
          refine va_sld hx hb hX hbl hbA hS (by unfold vp_in; decide) dL_law_416 ?_
          refine ztop (w := .int (xs 2)) rfl ?_
          refine zgo_i (wr := []) (zrunV (As := [.int (xs 1), .int (xs 2)]) (rest := [.int 20]) ⟨hx, hb, hml, hown, ht⟩ (zc_X10_storm_0 l D y a1 (xs 1) (xs 2) w11 w12 w13 w14 w15 w16 w17 w18 w19 w20 w21 w22 w23 w24 w25 w26 w27 w28 w29 w30 w31 w32 w33 w34 w35 w36 w37 w38 w39 w40 w41 w42 w43 w44 w45 w46 w47 w48 w49 w50 w51 w52 w53 w54 w55 w56 w57 w58 w59 w60 w61 w62 w63 w64 w65 w66 w67 w68 w69 w70 w71 w72 w73 w74 w75 w76 w77 w78 w79 w80 w81 w82 w83 w84) (cwV 2 ht (zgV zm_437 zm_438 zm_439 zm_5 zm_440) rfl rfl rfl (by decide +kernel) ⟨(Nat.le_of_ble_eq_true rfl), (Nat.le_of_ble_eq_true rfl)⟩) hK hE hS hA hW [0] (by decide) rfl 0 rfl rfl rfl rfl hl.1 rfl (Nat.le_of_ble_eq_true rfl) dL_law_417 (Nat.le_of_ble_eq_true rfl) (Nat.le_of_ble_eq_true rfl)) hS hA hW [0] [] rfl rfl (by decide) (by decide) (fun r22_ u H locs hw hW hS => ?_)
          have hW : zPD D _ [] H := hW
          have hw : r22_ = (if (xs 2) < 0 then (-1) else (if 3 < (xs 2) then (-1) else (if (xs 1) < 0 then (-2) else (if 99 < (xs 1) then (-2) else 20)))) := hw
          rw [if_neg c2_] at hw
          rw [if_neg c7_] at hw
          rw [if_neg c12_] at hw
          rw [if_neg c17_] at hw
          subst hw
          refine lv_icmp_eq (tgt := 1340) hx hb dL_law_420 (by decide) (fun c23_ => ?_) (fun c23_ => absurd (by decide) c23_)
          exact zl_end l C0 hS (lv_sub hl [0, 3] rfl)
set_option maxHeartbeats 8000000 in
set_option maxRecDepth 100000 in
theorem zl_case_5 {p : Program} {e : Env} {s : State} {m : MethodId} {below : List Frame} {meth : Method} {c : Code} (l : Launch) {b : Nat} {xs : Nat → Int32} (C0 : lw_At p s m meth c b 6 xs) (D : va_G) (y : Nat → ClassId) (a0 : Nat) (a1 : Nat) (w2 : Value) (w3 : Value) (w4 : Value) (a5 : Nat) (w6 : Value) (w7 : Value) (w8 : Value) (w9 : Value) (w10 : Value) (w11 : Value) (w12 : Value) (w13 : Value) (w14 : Value) (w15 : Value) (w16 : Value) (w17 : Value) (w18 : Value) (w19 : Value) (w20 : Value) (w21 : Value) (w22 : Value) (w23 : Value) (w24 : Value) (w25 : Value) (w26 : Value) (w27 : Value) (w28 : Value) (w29 : Value) (w30 : Value) (w31 : Value) (w32 : Value) (w33 : Value) (w34 : Value) (w35 : Value) (w36 : Value) (w37 : Value) (w38 : Value) (w39 : Value) (w40 : Value) (w41 : Value) (w42 : Value) (w43 : Value) (w44 : Value) (w45 : Value) (w46 : Value) (w47 : Value) (w48 : Value) (w49 : Value) (w50 : Value) (w51 : Value) (w52 : Value) (w53 : Value) (w54 : Value) (w55 : Value) (w56 : Value) (w57 : Value) (w58 : Value) (w59 : Value) (w60 : Value) (w61 : Value) (w62 : Value) (w63 : Value) (w64 : Value) (w65 : Value) (w66 : Value) (w67 : Value) (w68 : Value) (w69 : Value) (w70 : Value) (w71 : Value) (w72 : Value) (w73 : Value) (w74 : Value) (w75 : Value) (w76 : Value) (w77 : Value) (w78 : Value) (w79 : Value) (w80 : Value) (w81 : Value) (w82 : Value) (w83 : Value) (w84 : Value) (w85 : Value) (w86 : Value) (w87 : Value) (w88 : Value) (w89 : Value) (w90 : Value) (w91 : Value) (w92 : Value) (w93 : Value) (w94 : Value) (hK : zK D y s) (hE : zE y (fun q : Nat => s.heap.size ≤ q) s s.heap) {H : Heap} {locs : List Loc} {ls : Array Slot} (hS : va_S (fun q : Nat => s.heap.size ≤ q) s.heap H locs) (hW : zPD D (fun q : Nat => s.heap.size ≤ q) [(a0, .inr (8, [w2, w3, w4, .ref a5, w6, w7, w8, w9, w10])), (a1, .inr (9, [w11, w12, w13, w14, w15, .int 0, .int 0, w16, w17, w18, w19, w20, w21, w22, w23, w24, w25, w26, w27, w28, w29, w30, w31, w32, w33, w34, w35, w36, w37, w38, w39, w40, w41, w42, w43, w44, w45, w46, w47, w48, w49, w50, w51, w52, w53, w54, w55, w56, w57, w58, w59, w60, w61, w62, w63, w64, w65, w66, w67, w68, w69, w70, w71, w72, w73, w74, w75, w76, w77, w78, w79, w80, w81, w82, w83, w84])), (a5, .inr (6, [w85, w86, w87, w88, w89, w90, .int 0, .int 0, w91, w92, w93, w94]))] H) (hl : lv_has ls 4 [(3, .int 0), (2, .ref a1), (1, .ref a0), (0, .ref b)]) : W p l e room_1 s m #[Value.ref b] below meth c H locs 1000 20000 (lw_Z below #[Value.ref b] s) (F0 m 425 ls []) := by
  obtain ⟨hx, hb, hr, hml, hown, hts, hX, hbl, hlocks, hgv⟩ := id C0
  have ht : ∀ w ∈ zT, w.before #[Value.ref b] s = true := fun w h => hts w (zgin w h).1
  have hown : s.vm.findClass RL = some m.cls := hown
  have hA : ∀ q : Nat, s.heap.size ≤ q → (fun q : Nat => s.heap.size ≤ q) q := fun _ h => h
  have hbA : ¬ (fun q : Nat => s.heap.size ≤ q) b := Nat.not_le.mpr hbl
  refine lv_aload_n hx hb dL_law_425 rfl (lv_at hl 2 rfl) ?_
  refine lv_aload_n hx hb dL_law_426 rfl (lv_at hl 3 rfl) ?_
  refine lv_iload_n hx hb dL_law_427 rfl (lv_at hl 0 rfl) ?_
  refine lv_iconst (v := 1) hx hb dL_law_428 (by decide) ?_
  refine lv_iadd hx hb dL_law_429 ?_
  refine ztop (w := .int 1) (congrArg Value.int (by decide)) ?_
  refine va_sld hx hb hX hbl hbA hS (by unfold vp_in; decide) dL_law_430 ?_
  refine ztop (w := .int (xs 1)) rfl ?_
  refine lv_aload_n hx hb dL_law_431 rfl (lv_at hl 3 rfl) ?_
  refine lv_iload_n hx hb dL_law_432 rfl (lv_at hl 0 rfl) ?_
  refine lv_iconst (v := 2) hx hb dL_law_433 (by decide) ?_
  refine lv_iadd hx hb dL_law_434 ?_
  refine ztop (w := .int 2) (congrArg Value.int (by decide)) ?_
  refine va_sld hx hb hX hbl hbA hS (by unfold vp_in; decide) dL_law_435 ?_
  refine ztop (w := .int (xs 2)) rfl ?_
  refine zgo_i (wr := [(a1, .inr (9, [w11, w12, w13, w14, w15, .int 0, .int 0, w16, w17, w18, w19, w20, w21, w22, w23, w24, w25, w26, w27, w28, w29, w30, w31, w32, w33, w34, w35, w36, w37, w38, w39, w40, w41, w42, w43, w44, w45, w46, w47, w48, w49, w50, w51, w52, w53, w54, w55, w56, w57, w58, w59, w60, w61, w62, w63, w64, w65, w66, w67, w68, w69, w70, w71, w72, w73, w74, w75, w76, w77, w78, w79, w80, w81, w82, w83, w84]))]) (zrunV (As := [.int (xs 1), .int (xs 2)]) (rest := []) ⟨hx, hb, hml, hown, ht⟩ (zc_X9_stand_0 l D y a0 (xs 1) (xs 2) w2 w3 w4 a5 w6 w7 w8 w9 w10 w85 w86 w87 w88 w89 w90 w91 w92 w93 w94) (cwV 2 ht (zgV zm_441 zm_442 zm_443 zm_2 zm_444) rfl rfl rfl (by decide +kernel) ⟨(Nat.le_of_ble_eq_true rfl), (Nat.le_of_ble_eq_true rfl)⟩) hK hE hS hA hW [0, 2] (by decide) rfl 0 rfl rfl rfl rfl hl.1 rfl (Nat.le_of_ble_eq_true rfl) dL_law_436 (Nat.le_of_ble_eq_true rfl) (Nat.le_of_ble_eq_true rfl)) hS hA hW [0, 2] [1] rfl rfl (by decide) (by decide) (fun r1_ u H locs hw hW hS => ?_)
  have hW : zPD D _ [(a1, .inr (9, [w11, w12, w13, w14, w15, .int 0, .int 0, w16, w17, w18, w19, w20, w21, w22, w23, w24, w25, w26, w27, w28, w29, w30, w31, w32, w33, w34, w35, w36, w37, w38, w39, w40, w41, w42, w43, w44, w45, w46, w47, w48, w49, w50, w51, w52, w53, w54, w55, w56, w57, w58, w59, w60, w61, w62, w63, w64, w65, w66, w67, w68, w69, w70, w71, w72, w73, w74, w75, w76, w77, w78, w79, w80, w81, w82, w83, w84]))] H := hW
  have hw : r1_ = (if (xs 1) < 0 then (-2) else (if 3 < (xs 1) then (-2) else (if (xs 2) < 0 then (-2) else (if 4 < (xs 2) then (-2) else 1)))) := hw
  by_cases c2_ : (xs 1) < 0
  · have b3_ : (-2147483648) ≤ Int32.toInt (xs 1) ∧ Int32.toInt (xs 1) ≤ (-1) := (by have u0 := zbnd (xs 1); have u1 := (zi_lt _ _).mp c2_; have u2 : (0 : Int32).toInt = 0 := (by decide); omega)
    rw [if_pos c2_] at hw
    subst hw
    refine lv_aload_n hx hb dL_law_439 rfl (lv_at hl 1 rfl) ?_
    refine lv_aload_n hx hb dL_law_440 rfl (lv_at hl 3 rfl) ?_
    refine lv_iload_n hx hb dL_law_441 rfl (lv_at hl 0 rfl) ?_
    refine lv_iconst (v := 1) hx hb dL_law_442 (by decide) ?_
    refine lv_iadd hx hb dL_law_443 ?_
    refine ztop (w := .int 1) (congrArg Value.int (by decide)) ?_
    refine va_sld hx hb hX hbl hbA hS (by unfold vp_in; decide) dL_law_444 ?_
    refine ztop (w := .int (xs 1)) rfl ?_
    refine lv_aload_n hx hb dL_law_445 rfl (lv_at hl 3 rfl) ?_
    refine lv_iload_n hx hb dL_law_446 rfl (lv_at hl 0 rfl) ?_
    refine lv_iconst (v := 2) hx hb dL_law_447 (by decide) ?_
    refine lv_iadd hx hb dL_law_448 ?_
    refine ztop (w := .int 2) (congrArg Value.int (by decide)) ?_
    refine va_sld hx hb hX hbl hbA hS (by unfold vp_in; decide) dL_law_449 ?_
    refine ztop (w := .int (xs 2)) rfl ?_
    refine zgo_i (wr := []) (zrunV (As := [.int (xs 1), .int (xs 2)]) (rest := [.int (-2)]) ⟨hx, hb, hml, hown, ht⟩ (zc_X10_stand_0 l D y a1 (xs 1) (xs 2) w11 w12 w13 w14 w15 w16 w17 w18 w19 w20 w21 w22 w23 w24 w25 w26 w27 w28 w29 w30 w31 w32 w33 w34 w35 w36 w37 w38 w39 w40 w41 w42 w43 w44 w45 w46 w47 w48 w49 w50 w51 w52 w53 w54 w55 w56 w57 w58 w59 w60 w61 w62 w63 w64 w65 w66 w67 w68 w69 w70 w71 w72 w73 w74 w75 w76 w77 w78 w79 w80 w81 w82 w83 w84) (cwV 2 ht (zgV zm_445 zm_446 zm_447 zm_5 zm_448) rfl rfl rfl (by decide +kernel) ⟨(Nat.le_of_ble_eq_true rfl), (Nat.le_of_ble_eq_true rfl)⟩) hK hE hS hA hW [0] (by decide) rfl 0 rfl rfl rfl rfl hl.1 rfl (Nat.le_of_ble_eq_true rfl) dL_law_450 (Nat.le_of_ble_eq_true rfl) (Nat.le_of_ble_eq_true rfl)) hS hA hW [0] [] rfl rfl (by decide) (by decide) (fun r4_ u H locs hw hW hS => ?_)
    have hW : zPD D _ [] H := hW
    have hw : r4_ = (if (xs 1) < 0 then (-2) else (if 3 < (xs 1) then (-2) else (if (xs 2) < 0 then (-2) else (if 4 < (xs 2) then (-2) else 1)))) := hw
    rw [if_pos c2_] at hw
    subst hw
    refine lv_icmp_eq (tgt := 1340) hx hb dL_law_453 (by decide) (fun c5_ => ?_) (fun c5_ => absurd (by decide) c5_)
    exact zl_end l C0 hS (lv_sub hl [0, 3] rfl)
  · have b6_ : 0 ≤ Int32.toInt (xs 1) ∧ Int32.toInt (xs 1) ≤ 2147483647 := (by have u0 := zbnd (xs 1); have u1 := (not_congr (zi_lt _ _)).mp c2_; have u2 : (0 : Int32).toInt = 0 := (by decide); omega)
    rw [if_neg c2_] at hw
    by_cases c7_ : 3 < (xs 1)
    · have b8_ : 4 ≤ Int32.toInt (xs 1) ∧ Int32.toInt (xs 1) ≤ 2147483647 := (by have u0 := b6_; have u1 := (zi_lt _ _).mp c7_; have u2 : (3 : Int32).toInt = 3 := (by decide); omega)
      rw [if_pos c7_] at hw
      subst hw
      refine lv_aload_n hx hb dL_law_439 rfl (lv_at hl 1 rfl) ?_
      refine lv_aload_n hx hb dL_law_440 rfl (lv_at hl 3 rfl) ?_
      refine lv_iload_n hx hb dL_law_441 rfl (lv_at hl 0 rfl) ?_
      refine lv_iconst (v := 1) hx hb dL_law_442 (by decide) ?_
      refine lv_iadd hx hb dL_law_443 ?_
      refine ztop (w := .int 1) (congrArg Value.int (by decide)) ?_
      refine va_sld hx hb hX hbl hbA hS (by unfold vp_in; decide) dL_law_444 ?_
      refine ztop (w := .int (xs 1)) rfl ?_
      refine lv_aload_n hx hb dL_law_445 rfl (lv_at hl 3 rfl) ?_
      refine lv_iload_n hx hb dL_law_446 rfl (lv_at hl 0 rfl) ?_
      refine lv_iconst (v := 2) hx hb dL_law_447 (by decide) ?_
      refine lv_iadd hx hb dL_law_448 ?_
      refine ztop (w := .int 2) (congrArg Value.int (by decide)) ?_
      refine va_sld hx hb hX hbl hbA hS (by unfold vp_in; decide) dL_law_449 ?_
      refine ztop (w := .int (xs 2)) rfl ?_
      refine zgo_i (wr := []) (zrunV (As := [.int (xs 1), .int (xs 2)]) (rest := [.int (-2)]) ⟨hx, hb, hml, hown, ht⟩ (zc_X10_stand_0 l D y a1 (xs 1) (xs 2) w11 w12 w13 w14 w15 w16 w17 w18 w19 w20 w21 w22 w23 w24 w25 w26 w27 w28 w29 w30 w31 w32 w33 w34 w35 w36 w37 w38 w39 w40 w41 w42 w43 w44 w45 w46 w47 w48 w49 w50 w51 w52 w53 w54 w55 w56 w57 w58 w59 w60 w61 w62 w63 w64 w65 w66 w67 w68 w69 w70 w71 w72 w73 w74 w75 w76 w77 w78 w79 w80 w81 w82 w83 w84) (cwV 2 ht (zgV zm_445 zm_446 zm_447 zm_5 zm_448) rfl rfl rfl (by decide +kernel) ⟨(Nat.le_of_ble_eq_true rfl), (Nat.le_of_ble_eq_true rfl)⟩) hK hE hS hA hW [0] (by decide) rfl 0 rfl rfl rfl rfl hl.1 rfl (Nat.le_of_ble_eq_true rfl) dL_law_450 (Nat.le_of_ble_eq_true rfl) (Nat.le_of_ble_eq_true rfl)) hS hA hW [0] [] rfl rfl (by decide) (by decide) (fun r9_ u H locs hw hW hS => ?_)
      have hW : zPD D _ [] H := hW
      have hw : r9_ = (if (xs 1) < 0 then (-2) else (if 3 < (xs 1) then (-2) else (if (xs 2) < 0 then (-2) else (if 4 < (xs 2) then (-2) else 1)))) := hw
      rw [if_neg c2_] at hw
      rw [if_pos c7_] at hw
      subst hw
      refine lv_icmp_eq (tgt := 1340) hx hb dL_law_453 (by decide) (fun c10_ => ?_) (fun c10_ => absurd (by decide) c10_)
      exact zl_end l C0 hS (lv_sub hl [0, 3] rfl)
    · have b11_ : 0 ≤ Int32.toInt (xs 1) ∧ Int32.toInt (xs 1) ≤ 3 := (by have u0 := b6_; have u1 := (not_congr (zi_lt _ _)).mp c7_; have u2 : (3 : Int32).toInt = 3 := (by decide); omega)
      rw [if_neg c7_] at hw
      by_cases c12_ : (xs 2) < 0
      · have b13_ : (-2147483648) ≤ Int32.toInt (xs 2) ∧ Int32.toInt (xs 2) ≤ (-1) := (by have u0 := zbnd (xs 2); have u1 := (zi_lt _ _).mp c12_; have u2 : (0 : Int32).toInt = 0 := (by decide); omega)
        rw [if_pos c12_] at hw
        subst hw
        refine lv_aload_n hx hb dL_law_439 rfl (lv_at hl 1 rfl) ?_
        refine lv_aload_n hx hb dL_law_440 rfl (lv_at hl 3 rfl) ?_
        refine lv_iload_n hx hb dL_law_441 rfl (lv_at hl 0 rfl) ?_
        refine lv_iconst (v := 1) hx hb dL_law_442 (by decide) ?_
        refine lv_iadd hx hb dL_law_443 ?_
        refine ztop (w := .int 1) (congrArg Value.int (by decide)) ?_
        refine va_sld hx hb hX hbl hbA hS (by unfold vp_in; decide) dL_law_444 ?_
        refine ztop (w := .int (xs 1)) rfl ?_
        refine lv_aload_n hx hb dL_law_445 rfl (lv_at hl 3 rfl) ?_
        refine lv_iload_n hx hb dL_law_446 rfl (lv_at hl 0 rfl) ?_
        refine lv_iconst (v := 2) hx hb dL_law_447 (by decide) ?_
        refine lv_iadd hx hb dL_law_448 ?_
        refine ztop (w := .int 2) (congrArg Value.int (by decide)) ?_
        refine va_sld hx hb hX hbl hbA hS (by unfold vp_in; decide) dL_law_449 ?_
        refine ztop (w := .int (xs 2)) rfl ?_
        refine zgo_i (wr := []) (zrunV (As := [.int (xs 1), .int (xs 2)]) (rest := [.int (-2)]) ⟨hx, hb, hml, hown, ht⟩ (zc_X10_stand_0 l D y a1 (xs 1) (xs 2) w11 w12 w13 w14 w15 w16 w17 w18 w19 w20 w21 w22 w23 w24 w25 w26 w27 w28 w29 w30 w31 w32 w33 w34 w35 w36 w37 w38 w39 w40 w41 w42 w43 w44 w45 w46 w47 w48 w49 w50 w51 w52 w53 w54 w55 w56 w57 w58 w59 w60 w61 w62 w63 w64 w65 w66 w67 w68 w69 w70 w71 w72 w73 w74 w75 w76 w77 w78 w79 w80 w81 w82 w83 w84) (cwV 2 ht (zgV zm_445 zm_446 zm_447 zm_5 zm_448) rfl rfl rfl (by decide +kernel) ⟨(Nat.le_of_ble_eq_true rfl), (Nat.le_of_ble_eq_true rfl)⟩) hK hE hS hA hW [0] (by decide) rfl 0 rfl rfl rfl rfl hl.1 rfl (Nat.le_of_ble_eq_true rfl) dL_law_450 (Nat.le_of_ble_eq_true rfl) (Nat.le_of_ble_eq_true rfl)) hS hA hW [0] [] rfl rfl (by decide) (by decide) (fun r14_ u H locs hw hW hS => ?_)
        have hW : zPD D _ [] H := hW
        have hw : r14_ = (if (xs 1) < 0 then (-2) else (if 3 < (xs 1) then (-2) else (if (xs 2) < 0 then (-2) else (if 4 < (xs 2) then (-2) else 1)))) := hw
        rw [if_neg c2_] at hw
        rw [if_neg c7_] at hw
        rw [if_pos c12_] at hw
        subst hw
        refine lv_icmp_eq (tgt := 1340) hx hb dL_law_453 (by decide) (fun c15_ => ?_) (fun c15_ => absurd (by decide) c15_)
        exact zl_end l C0 hS (lv_sub hl [0, 3] rfl)
      · have b16_ : 0 ≤ Int32.toInt (xs 2) ∧ Int32.toInt (xs 2) ≤ 2147483647 := (by have u0 := zbnd (xs 2); have u1 := (not_congr (zi_lt _ _)).mp c12_; have u2 : (0 : Int32).toInt = 0 := (by decide); omega)
        rw [if_neg c12_] at hw
        by_cases c17_ : 4 < (xs 2)
        · have b18_ : 5 ≤ Int32.toInt (xs 2) ∧ Int32.toInt (xs 2) ≤ 2147483647 := (by have u0 := b16_; have u1 := (zi_lt _ _).mp c17_; have u2 : (4 : Int32).toInt = 4 := (by decide); omega)
          rw [if_pos c17_] at hw
          subst hw
          refine lv_aload_n hx hb dL_law_439 rfl (lv_at hl 1 rfl) ?_
          refine lv_aload_n hx hb dL_law_440 rfl (lv_at hl 3 rfl) ?_
          refine lv_iload_n hx hb dL_law_441 rfl (lv_at hl 0 rfl) ?_
          refine lv_iconst (v := 1) hx hb dL_law_442 (by decide) ?_
          refine lv_iadd hx hb dL_law_443 ?_
          refine ztop (w := .int 1) (congrArg Value.int (by decide)) ?_
          refine va_sld hx hb hX hbl hbA hS (by unfold vp_in; decide) dL_law_444 ?_
          refine ztop (w := .int (xs 1)) rfl ?_
          refine lv_aload_n hx hb dL_law_445 rfl (lv_at hl 3 rfl) ?_
          refine lv_iload_n hx hb dL_law_446 rfl (lv_at hl 0 rfl) ?_
          refine lv_iconst (v := 2) hx hb dL_law_447 (by decide) ?_
          refine lv_iadd hx hb dL_law_448 ?_
          refine ztop (w := .int 2) (congrArg Value.int (by decide)) ?_
          refine va_sld hx hb hX hbl hbA hS (by unfold vp_in; decide) dL_law_449 ?_
          refine ztop (w := .int (xs 2)) rfl ?_
          refine zgo_i (wr := []) (zrunV (As := [.int (xs 1), .int (xs 2)]) (rest := [.int (-2)]) ⟨hx, hb, hml, hown, ht⟩ (zc_X10_stand_0 l D y a1 (xs 1) (xs 2) w11 w12 w13 w14 w15 w16 w17 w18 w19 w20 w21 w22 w23 w24 w25 w26 w27 w28 w29 w30 w31 w32 w33 w34 w35 w36 w37 w38 w39 w40 w41 w42 w43 w44 w45 w46 w47 w48 w49 w50 w51 w52 w53 w54 w55 w56 w57 w58 w59 w60 w61 w62 w63 w64 w65 w66 w67 w68 w69 w70 w71 w72 w73 w74 w75 w76 w77 w78 w79 w80 w81 w82 w83 w84) (cwV 2 ht (zgV zm_445 zm_446 zm_447 zm_5 zm_448) rfl rfl rfl (by decide +kernel) ⟨(Nat.le_of_ble_eq_true rfl), (Nat.le_of_ble_eq_true rfl)⟩) hK hE hS hA hW [0] (by decide) rfl 0 rfl rfl rfl rfl hl.1 rfl (Nat.le_of_ble_eq_true rfl) dL_law_450 (Nat.le_of_ble_eq_true rfl) (Nat.le_of_ble_eq_true rfl)) hS hA hW [0] [] rfl rfl (by decide) (by decide) (fun r19_ u H locs hw hW hS => ?_)
          have hW : zPD D _ [] H := hW
          have hw : r19_ = (if (xs 1) < 0 then (-2) else (if 3 < (xs 1) then (-2) else (if (xs 2) < 0 then (-2) else (if 4 < (xs 2) then (-2) else 1)))) := hw
          rw [if_neg c2_] at hw
          rw [if_neg c7_] at hw
          rw [if_neg c12_] at hw
          rw [if_pos c17_] at hw
          subst hw
          refine lv_icmp_eq (tgt := 1340) hx hb dL_law_453 (by decide) (fun c20_ => ?_) (fun c20_ => absurd (by decide) c20_)
          exact zl_end l C0 hS (lv_sub hl [0, 3] rfl)
        · have b21_ : 0 ≤ Int32.toInt (xs 2) ∧ Int32.toInt (xs 2) ≤ 4 := (by have u0 := b16_; have u1 := (not_congr (zi_lt _ _)).mp c17_; have u2 : (4 : Int32).toInt = 4 := (by decide); omega)
          rw [if_neg c17_] at hw
          subst hw
          refine lv_aload_n hx hb dL_law_439 rfl (lv_at hl 1 rfl) ?_
          refine lv_aload_n hx hb dL_law_440 rfl (lv_at hl 3 rfl) ?_
          refine lv_iload_n hx hb dL_law_441 rfl (lv_at hl 0 rfl) ?_
          refine lv_iconst (v := 1) hx hb dL_law_442 (by decide) ?_
          refine lv_iadd hx hb dL_law_443 ?_
          refine ztop (w := .int 1) (congrArg Value.int (by decide)) ?_
          refine va_sld hx hb hX hbl hbA hS (by unfold vp_in; decide) dL_law_444 ?_
          refine ztop (w := .int (xs 1)) rfl ?_
          refine lv_aload_n hx hb dL_law_445 rfl (lv_at hl 3 rfl) ?_
          refine lv_iload_n hx hb dL_law_446 rfl (lv_at hl 0 rfl) ?_
          refine lv_iconst (v := 2) hx hb dL_law_447 (by decide) ?_
          refine lv_iadd hx hb dL_law_448 ?_
          refine ztop (w := .int 2) (congrArg Value.int (by decide)) ?_
          refine va_sld hx hb hX hbl hbA hS (by unfold vp_in; decide) dL_law_449 ?_
          refine ztop (w := .int (xs 2)) rfl ?_
          refine zgo_i (wr := []) (zrunV (As := [.int (xs 1), .int (xs 2)]) (rest := [.int 1]) ⟨hx, hb, hml, hown, ht⟩ (zc_X10_stand_0 l D y a1 (xs 1) (xs 2) w11 w12 w13 w14 w15 w16 w17 w18 w19 w20 w21 w22 w23 w24 w25 w26 w27 w28 w29 w30 w31 w32 w33 w34 w35 w36 w37 w38 w39 w40 w41 w42 w43 w44 w45 w46 w47 w48 w49 w50 w51 w52 w53 w54 w55 w56 w57 w58 w59 w60 w61 w62 w63 w64 w65 w66 w67 w68 w69 w70 w71 w72 w73 w74 w75 w76 w77 w78 w79 w80 w81 w82 w83 w84) (cwV 2 ht (zgV zm_445 zm_446 zm_447 zm_5 zm_448) rfl rfl rfl (by decide +kernel) ⟨(Nat.le_of_ble_eq_true rfl), (Nat.le_of_ble_eq_true rfl)⟩) hK hE hS hA hW [0] (by decide) rfl 0 rfl rfl rfl rfl hl.1 rfl (Nat.le_of_ble_eq_true rfl) dL_law_450 (Nat.le_of_ble_eq_true rfl) (Nat.le_of_ble_eq_true rfl)) hS hA hW [0] [] rfl rfl (by decide) (by decide) (fun r22_ u H locs hw hW hS => ?_)
          have hW : zPD D _ [] H := hW
          have hw : r22_ = (if (xs 1) < 0 then (-2) else (if 3 < (xs 1) then (-2) else (if (xs 2) < 0 then (-2) else (if 4 < (xs 2) then (-2) else 1)))) := hw
          rw [if_neg c2_] at hw
          rw [if_neg c7_] at hw
          rw [if_neg c12_] at hw
          rw [if_neg c17_] at hw
          subst hw
          refine lv_icmp_eq (tgt := 1340) hx hb dL_law_453 (by decide) (fun c23_ => ?_) (fun c23_ => absurd (by decide) c23_)
          exact zl_end l C0 hS (lv_sub hl [0, 3] rfl)
set_option maxHeartbeats 8000000 in
set_option maxRecDepth 100000 in
theorem zl_case_6 {p : Program} {e : Env} {s : State} {m : MethodId} {below : List Frame} {meth : Method} {c : Code} (l : Launch) {b : Nat} {xs : Nat → Int32} (C0 : lw_At p s m meth c b 6 xs) (D : va_G) (y : Nat → ClassId) (a0 : Nat) (a1 : Nat) (w2 : Value) (w3 : Value) (a4 : Nat) (w5 : Value) (w6 : Value) (w7 : Value) (w8 : Value) (w9 : Value) (w10 : Value) (w11 : Value) (w12 : Value) (w13 : Value) (w14 : Value) (w15 : Value) (w16 : Value) (w17 : Value) (w18 : Value) (w19 : Value) (w20 : Value) (w21 : Value) (w22 : Value) (w23 : Value) (w24 : Value) (w25 : Value) (w26 : Value) (w27 : Value) (w28 : Value) (a29 : Nat) (w30 : Value) (w31 : Value) (w32 : Value) (w33 : Value) (w34 : Value) (w35 : Value) (w36 : Value) (w37 : Value) (w38 : Value) (w39 : Value) (w40 : Value) (w41 : Value) (w42 : Value) (w43 : Value) (w44 : Value) (w45 : Value) (w46 : Value) (w47 : Value) (w48 : Value) (w49 : Value) (w50 : Value) (w51 : Value) (w52 : Value) (w53 : Value) (w54 : Value) (w55 : Value) (w56 : Value) (w57 : Value) (w58 : Value) (w59 : Value) (w60 : Value) (w61 : Value) (w62 : Value) (w63 : Value) (w64 : Value) (w65 : Value) (w66 : Value) (w67 : Value) (w68 : Value) (w69 : Value) (w70 : Value) (w71 : Value) (w72 : Value) (w73 : Value) (w74 : Value) (w75 : Value) (w76 : Value) (w77 : Value) (w78 : Value) (w79 : Value) (w80 : Value) (w81 : Value) (w82 : Value) (w83 : Value) (w84 : Value) (w85 : Value) (a86 : Nat) (w87 : Value) (w88 : Value) (w89 : Value) (hK : zK D y s) (hE : zE y (fun q : Nat => s.heap.size ≤ q) s s.heap) {H : Heap} {locs : List Loc} {ls : Array Slot} (hS : va_S (fun q : Nat => s.heap.size ≤ q) s.heap H locs) (hW : zPD D (fun q : Nat => s.heap.size ≤ q) [(a0, .inr (8, [w2, w3, .ref a4, w5, w6, w7, w8, w9, w10])), (a1, .inr (9, [w11, w12, w13, w14, w15, w16, w17, w18, w19, w20, w21, w22, w23, w24, w25, w26, .int 0, w27, w28, .ref a29, w30, w31, w32, w33, w34, w35, w36, w37, w38, w39, w40, w41, w42, w43, w44, w45, w46, w47, w48, w49, w50, w51, w52, w53, w54, w55, w56, w57, w58, w59, w60, w61, w62, w63, w64, w65, w66, w67, w68, w69, w70, w71, w72, w73, w74, w75, w76, w77, w78, w79, w80, w81, w82, w83, w84, w85])), (a4, .inr (4, [.ref a86, .int 0, w87, w88, w89])), (a29, .inl (y 0, 100, .inl (fun _ => 0))), (a86, .inl (y 0, 100, .inl (fun _ => 0)))] H) (hl : lv_has ls 4 [(3, .int 0), (2, .ref a1), (1, .ref a0), (0, .ref b)]) : W p l e room_1 s m #[Value.ref b] below meth c H locs 1000 20000 (lw_Z below #[Value.ref b] s) (F0 m 458 ls []) := by
  obtain ⟨hx, hb, hr, hml, hown, hts, hX, hbl, hlocks, hgv⟩ := id C0
  have ht : ∀ w ∈ zT, w.before #[Value.ref b] s = true := fun w h => hts w (zgin w h).1
  have hown : s.vm.findClass RL = some m.cls := hown
  have hA : ∀ q : Nat, s.heap.size ≤ q → (fun q : Nat => s.heap.size ≤ q) q := fun _ h => h
  have hbA : ¬ (fun q : Nat => s.heap.size ≤ q) b := Nat.not_le.mpr hbl
  refine lv_aload_n hx hb dL_law_458 rfl (lv_at hl 2 rfl) ?_
  refine lv_aload_n hx hb dL_law_459 rfl (lv_at hl 3 rfl) ?_
  refine lv_iload_n hx hb dL_law_460 rfl (lv_at hl 0 rfl) ?_
  refine lv_iconst (v := 1) hx hb dL_law_461 (by decide) ?_
  refine lv_iadd hx hb dL_law_462 ?_
  refine ztop (w := .int 1) (congrArg Value.int (by decide)) ?_
  refine va_sld hx hb hX hbl hbA hS (by unfold vp_in; decide) dL_law_463 ?_
  refine ztop (w := .int (xs 1)) rfl ?_
  refine zgo_i (wr := [(a1, .inr (9, [w11, w12, w13, w14, w15, w16, w17, w18, w19, w20, w21, w22, w23, w24, w25, w26, .int 0, w27, w28, .ref a29, w30, w31, w32, w33, w34, w35, w36, w37, w38, w39, w40, w41, w42, w43, w44, w45, w46, w47, w48, w49, w50, w51, w52, w53, w54, w55, w56, w57, w58, w59, w60, w61, w62, w63, w64, w65, w66, w67, w68, w69, w70, w71, w72, w73, w74, w75, w76, w77, w78, w79, w80, w81, w82, w83, w84, w85])), (a29, .inl (y 0, 100, .inl (fun _ => 0)))]) (zrunV (As := [.int (xs 1)]) (rest := []) ⟨hx, hb, hml, hown, ht⟩ (zc_X9_feed_0 l D y a0 (xs 1) w2 w3 a4 w5 w6 w7 w8 w9 w10 a86 w87 w88 w89) (cwV 1 ht (zgV zm_449 zm_450 zm_451 zm_2 zm_452) rfl rfl rfl (by decide +kernel) ⟨(Nat.le_of_ble_eq_true rfl), (Nat.le_of_ble_eq_true rfl)⟩) hK hE hS hA hW [0, 2, 4] (by decide) rfl 0 rfl rfl rfl rfl hl.1 rfl (Nat.le_of_ble_eq_true rfl) dL_law_464 (Nat.le_of_ble_eq_true rfl) (Nat.le_of_ble_eq_true rfl)) hS hA hW [0, 2, 4] [1, 3] rfl rfl (by decide) (by decide) (fun r1_ u H locs hw hW hS => ?_)
  have hW : zPD D _ [(a1, .inr (9, [w11, w12, w13, w14, w15, w16, w17, w18, w19, w20, w21, w22, w23, w24, w25, w26, .int 0, w27, w28, .ref a29, w30, w31, w32, w33, w34, w35, w36, w37, w38, w39, w40, w41, w42, w43, w44, w45, w46, w47, w48, w49, w50, w51, w52, w53, w54, w55, w56, w57, w58, w59, w60, w61, w62, w63, w64, w65, w66, w67, w68, w69, w70, w71, w72, w73, w74, w75, w76, w77, w78, w79, w80, w81, w82, w83, w84, w85])), (a29, .inl (y 0, 100, .inl (fun _ => 0)))] H := hW
  have hw : r1_ = (if (xs 1) < 0 then (-2) else (if 127 < (xs 1) then (-2) else 1)) := hw
  by_cases c2_ : (xs 1) < 0
  · have b3_ : (-2147483648) ≤ Int32.toInt (xs 1) ∧ Int32.toInt (xs 1) ≤ (-1) := (by have u0 := zbnd (xs 1); have u1 := (zi_lt _ _).mp c2_; have u2 : (0 : Int32).toInt = 0 := (by decide); omega)
    rw [if_pos c2_] at hw
    subst hw
    refine lv_aload_n hx hb dL_law_467 rfl (lv_at hl 1 rfl) ?_
    refine lv_aload_n hx hb dL_law_468 rfl (lv_at hl 3 rfl) ?_
    refine lv_iload_n hx hb dL_law_469 rfl (lv_at hl 0 rfl) ?_
    refine lv_iconst (v := 1) hx hb dL_law_470 (by decide) ?_
    refine lv_iadd hx hb dL_law_471 ?_
    refine ztop (w := .int 1) (congrArg Value.int (by decide)) ?_
    refine va_sld hx hb hX hbl hbA hS (by unfold vp_in; decide) dL_law_472 ?_
    refine ztop (w := .int (xs 1)) rfl ?_
    refine zgo_i (wr := []) (zrunV (As := [.int (xs 1)]) (rest := [.int (-2)]) ⟨hx, hb, hml, hown, ht⟩ (zc_X10_feed_0 l D y a1 (xs 1) w11 w12 w13 w14 w15 w16 w17 w18 w19 w20 w21 w22 w23 w24 w25 w26 w27 w28 a29 w30 w31 w32 w33 w34 w35 w36 w37 w38 w39 w40 w41 w42 w43 w44 w45 w46 w47 w48 w49 w50 w51 w52 w53 w54 w55 w56 w57 w58 w59 w60 w61 w62 w63 w64 w65 w66 w67 w68 w69 w70 w71 w72 w73 w74 w75 w76 w77 w78 w79 w80 w81 w82 w83 w84 w85) (cwV 1 ht (zgV zm_455 zm_456 zm_457 zm_5 zm_458) rfl rfl rfl (by decide +kernel) ⟨(Nat.le_of_ble_eq_true rfl), (Nat.le_of_ble_eq_true rfl)⟩) hK hE hS hA hW [0, 1] (by decide) rfl 0 rfl rfl rfl rfl hl.1 rfl (Nat.le_of_ble_eq_true rfl) dL_law_473 (Nat.le_of_ble_eq_true rfl) (Nat.le_of_ble_eq_true rfl)) hS hA hW [0, 1] [] rfl rfl (by decide) (by decide) (fun r4_ u H locs hw hW hS => ?_)
    have hW : zPD D _ [] H := hW
    have hw : r4_ = (if (xs 1) < 0 then (-2) else (if 127 < (xs 1) then (-2) else 1)) := hw
    rw [if_pos c2_] at hw
    subst hw
    refine lv_icmp_eq (tgt := 1340) hx hb dL_law_476 (by decide) (fun c5_ => ?_) (fun c5_ => absurd (by decide) c5_)
    exact zl_end l C0 hS (lv_sub hl [0, 3] rfl)
  · have b6_ : 0 ≤ Int32.toInt (xs 1) ∧ Int32.toInt (xs 1) ≤ 2147483647 := (by have u0 := zbnd (xs 1); have u1 := (not_congr (zi_lt _ _)).mp c2_; have u2 : (0 : Int32).toInt = 0 := (by decide); omega)
    rw [if_neg c2_] at hw
    by_cases c7_ : 127 < (xs 1)
    · have b8_ : 128 ≤ Int32.toInt (xs 1) ∧ Int32.toInt (xs 1) ≤ 2147483647 := (by have u0 := b6_; have u1 := (zi_lt _ _).mp c7_; have u2 : (127 : Int32).toInt = 127 := (by decide); omega)
      rw [if_pos c7_] at hw
      subst hw
      refine lv_aload_n hx hb dL_law_467 rfl (lv_at hl 1 rfl) ?_
      refine lv_aload_n hx hb dL_law_468 rfl (lv_at hl 3 rfl) ?_
      refine lv_iload_n hx hb dL_law_469 rfl (lv_at hl 0 rfl) ?_
      refine lv_iconst (v := 1) hx hb dL_law_470 (by decide) ?_
      refine lv_iadd hx hb dL_law_471 ?_
      refine ztop (w := .int 1) (congrArg Value.int (by decide)) ?_
      refine va_sld hx hb hX hbl hbA hS (by unfold vp_in; decide) dL_law_472 ?_
      refine ztop (w := .int (xs 1)) rfl ?_
      refine zgo_i (wr := []) (zrunV (As := [.int (xs 1)]) (rest := [.int (-2)]) ⟨hx, hb, hml, hown, ht⟩ (zc_X10_feed_0 l D y a1 (xs 1) w11 w12 w13 w14 w15 w16 w17 w18 w19 w20 w21 w22 w23 w24 w25 w26 w27 w28 a29 w30 w31 w32 w33 w34 w35 w36 w37 w38 w39 w40 w41 w42 w43 w44 w45 w46 w47 w48 w49 w50 w51 w52 w53 w54 w55 w56 w57 w58 w59 w60 w61 w62 w63 w64 w65 w66 w67 w68 w69 w70 w71 w72 w73 w74 w75 w76 w77 w78 w79 w80 w81 w82 w83 w84 w85) (cwV 1 ht (zgV zm_455 zm_456 zm_457 zm_5 zm_458) rfl rfl rfl (by decide +kernel) ⟨(Nat.le_of_ble_eq_true rfl), (Nat.le_of_ble_eq_true rfl)⟩) hK hE hS hA hW [0, 1] (by decide) rfl 0 rfl rfl rfl rfl hl.1 rfl (Nat.le_of_ble_eq_true rfl) dL_law_473 (Nat.le_of_ble_eq_true rfl) (Nat.le_of_ble_eq_true rfl)) hS hA hW [0, 1] [] rfl rfl (by decide) (by decide) (fun r9_ u H locs hw hW hS => ?_)
      have hW : zPD D _ [] H := hW
      have hw : r9_ = (if (xs 1) < 0 then (-2) else (if 127 < (xs 1) then (-2) else 1)) := hw
      rw [if_neg c2_] at hw
      rw [if_pos c7_] at hw
      subst hw
      refine lv_icmp_eq (tgt := 1340) hx hb dL_law_476 (by decide) (fun c10_ => ?_) (fun c10_ => absurd (by decide) c10_)
      exact zl_end l C0 hS (lv_sub hl [0, 3] rfl)
    · have b11_ : 0 ≤ Int32.toInt (xs 1) ∧ Int32.toInt (xs 1) ≤ 127 := (by have u0 := b6_; have u1 := (not_congr (zi_lt _ _)).mp c7_; have u2 : (127 : Int32).toInt = 127 := (by decide); omega)
      rw [if_neg c7_] at hw
      subst hw
      refine lv_aload_n hx hb dL_law_467 rfl (lv_at hl 1 rfl) ?_
      refine lv_aload_n hx hb dL_law_468 rfl (lv_at hl 3 rfl) ?_
      refine lv_iload_n hx hb dL_law_469 rfl (lv_at hl 0 rfl) ?_
      refine lv_iconst (v := 1) hx hb dL_law_470 (by decide) ?_
      refine lv_iadd hx hb dL_law_471 ?_
      refine ztop (w := .int 1) (congrArg Value.int (by decide)) ?_
      refine va_sld hx hb hX hbl hbA hS (by unfold vp_in; decide) dL_law_472 ?_
      refine ztop (w := .int (xs 1)) rfl ?_
      refine zgo_i (wr := []) (zrunV (As := [.int (xs 1)]) (rest := [.int 1]) ⟨hx, hb, hml, hown, ht⟩ (zc_X10_feed_0 l D y a1 (xs 1) w11 w12 w13 w14 w15 w16 w17 w18 w19 w20 w21 w22 w23 w24 w25 w26 w27 w28 a29 w30 w31 w32 w33 w34 w35 w36 w37 w38 w39 w40 w41 w42 w43 w44 w45 w46 w47 w48 w49 w50 w51 w52 w53 w54 w55 w56 w57 w58 w59 w60 w61 w62 w63 w64 w65 w66 w67 w68 w69 w70 w71 w72 w73 w74 w75 w76 w77 w78 w79 w80 w81 w82 w83 w84 w85) (cwV 1 ht (zgV zm_455 zm_456 zm_457 zm_5 zm_458) rfl rfl rfl (by decide +kernel) ⟨(Nat.le_of_ble_eq_true rfl), (Nat.le_of_ble_eq_true rfl)⟩) hK hE hS hA hW [0, 1] (by decide) rfl 0 rfl rfl rfl rfl hl.1 rfl (Nat.le_of_ble_eq_true rfl) dL_law_473 (Nat.le_of_ble_eq_true rfl) (Nat.le_of_ble_eq_true rfl)) hS hA hW [0, 1] [] rfl rfl (by decide) (by decide) (fun r12_ u H locs hw hW hS => ?_)
      have hW : zPD D _ [] H := hW
      have hw : r12_ = (if (xs 1) < 0 then (-2) else (if 127 < (xs 1) then (-2) else 1)) := hw
      rw [if_neg c2_] at hw
      rw [if_neg c7_] at hw
      subst hw
      refine lv_icmp_eq (tgt := 1340) hx hb dL_law_476 (by decide) (fun c13_ => ?_) (fun c13_ => absurd (by decide) c13_)
      exact zl_end l C0 hS (lv_sub hl [0, 3] rfl)
set_option maxHeartbeats 8000000 in
set_option maxRecDepth 100000 in
theorem zl_case_7 {p : Program} {e : Env} {s : State} {m : MethodId} {below : List Frame} {meth : Method} {c : Code} (l : Launch) {b : Nat} {xs : Nat → Int32} (C0 : lw_At p s m meth c b 6 xs) (D : va_G) (y : Nat → ClassId) (a0 : Nat) (a1 : Nat) (a2 : Nat) (a3 : Nat) (w4 : Value) (w5 : Value) (w6 : Value) (w7 : Value) (w8 : Value) (w9 : Value) (w10 : Value) (w11 : Value) (w12 : Value) (w13 : Value) (w14 : Value) (w15 : Value) (w16 : Value) (w17 : Value) (w18 : Value) (w19 : Value) (w20 : Value) (w21 : Value) (w22 : Value) (w23 : Value) (w24 : Value) (w25 : Value) (w26 : Value) (w27 : Value) (a28 : Nat) (w29 : Value) (w30 : Value) (w31 : Value) (w32 : Value) (w33 : Value) (w34 : Value) (w35 : Value) (a36 : Nat) (w37 : Value) (w38 : Value) (w39 : Value) (w40 : Value) (w41 : Value) (w42 : Value) (w43 : Value) (w44 : Value) (w45 : Value) (w46 : Value) (w47 : Value) (w48 : Value) (w49 : Value) (w50 : Value) (w51 : Value) (w52 : Value) (w53 : Value) (w54 : Value) (w55 : Value) (w56 : Value) (w57 : Value) (w58 : Value) (w59 : Value) (w60 : Value) (w61 : Value) (w62 : Value) (w63 : Value) (w64 : Value) (w65 : Value) (w66 : Value) (w67 : Value) (w68 : Value) (w69 : Value) (w70 : Value) (w71 : Value) (w72 : Value) (w73 : Value) (w74 : Value) (w75 : Value) (w76 : Value) (w77 : Value) (w78 : Value) (w79 : Value) (w80 : Value) (w81 : Value) (a82 : Nat) (a83 : Nat) (a84 : Nat) (a85 : Nat) (a86 : Nat) (a87 : Nat) (w88 : Value) (a89 : Nat) (w90 : Value) (w91 : Value) (w92 : Value) (w93 : Value) (hK : zK D y s) (hE : zE y (fun q : Nat => s.heap.size ≤ q) s s.heap) {H : Heap} {locs : List Loc} {ls : Array Slot} (hS : va_S (fun q : Nat => s.heap.size ≤ q) s.heap H locs) (hW : zPD D (fun q : Nat => s.heap.size ≤ q) [(a0, .inr (8, [.ref a2, .int 0, .ref a3, w4, w5, w6, w7, w8, w9])), (a1, .inr (9, [w10, w11, w12, w13, w14, w15, w16, w17, w18, w19, w20, w21, w22, w23, .int 0, w24, .int 0, .int 0, w25, w26, w27, .ref a28, w29, w30, w31, w32, w33, .int 0, w34, w35, .ref a36, w37, w38, w39, w40, w41, w42, w43, w44, w45, w46, w47, w48, w49, w50, w51, w52, w53, w54, w55, w56, w57, w58, w59, w60, w61, w62, w63, w64, w65, w66, w67, w68, w69, w70, w71, w72, w73, w74, w75, w76, w77, w78, w79, w80, w81])), (a2, .inl (y 3, 6, .inr (.inr (.inr (.inr (va_up (va_up (va_up (va_up (va_up (va_up (fun _ => none) 0 (some a82)) 1 (some a83)) 2 (some a84)) 3 (some a85)) 4 (some a86)) 5 (some a87))))))), (a3, .inr (4, [w88, .int 0, .int 0, .int (-1), .ref a89])), (a28, .inl (y 0, 60, .inl (fun _ => 0))), (a36, .inl (y 0, 15, .inl (upd (upd (upd (upd (upd (upd (upd (upd (upd (upd (upd (upd (upd (upd (upd (fun _ => 0) 0 119) 1 101) 2 116) 3 100) 4 114) 5 121) 6 115) 7 116) 8 97) 9 105) 10 114) 11 108) 12 97) 13 115) 14 116))), (a82, .inr (2, [.int 2, .int 15, .int 0, w90, w91, .int 0, w92, w93]))] H) (hl : lv_has ls 4 [(3, .int 0), (2, .ref a1), (1, .ref a0), (0, .ref b)]) : W p l e room_1 s m #[Value.ref b] below meth c H locs 1000 20000 (lw_Z below #[Value.ref b] s) (F0 m 481 ls []) := by
  obtain ⟨hx, hb, hr, hml, hown, hts, hX, hbl, hlocks, hgv⟩ := id C0
  have ht : ∀ w ∈ zT, w.before #[Value.ref b] s = true := fun w h => hts w (zgin w h).1
  have hown : s.vm.findClass RL = some m.cls := hown
  have hA : ∀ q : Nat, s.heap.size ≤ q → (fun q : Nat => s.heap.size ≤ q) q := fun _ h => h
  have hbA : ¬ (fun q : Nat => s.heap.size ≤ q) b := Nat.not_le.mpr hbl
  refine lv_aload_n hx hb dL_law_481 rfl (lv_at hl 2 rfl) ?_
  refine zgo_i (wr := [(a1, .inr (9, [w10, w11, w12, w13, w14, w15, w16, w17, w18, w19, w20, w21, w22, w23, .int 0, w24, .int 0, .int 0, w25, w26, w27, .ref a28, w29, w30, w31, w32, w33, .int 0, w34, w35, .ref a36, w37, w38, w39, w40, w41, w42, w43, w44, w45, w46, w47, w48, w49, w50, w51, w52, w53, w54, w55, w56, w57, w58, w59, w60, w61, w62, w63, w64, w65, w66, w67, w68, w69, w70, w71, w72, w73, w74, w75, w76, w77, w78, w79, w80, w81])), (a28, .inl (y 0, 60, .inl (fun _ => 0))), (a36, .inl (y 0, 15, .inl (upd (upd (upd (upd (upd (upd (upd (upd (upd (upd (upd (upd (upd (upd (upd (fun _ => 0) 0 119) 1 101) 2 116) 3 100) 4 114) 5 121) 6 115) 7 116) 8 97) 9 105) 10 114) 11 108) 12 97) 13 115) 14 116)))]) (zrunV (As := []) (rest := []) ⟨hx, hb, hml, hown, ht⟩ (zc_X9_house_0 l D y a0 a2 a3 w4 w5 w6 w7 w8 w9 a82 a83 a84 a85 a86 a87 w88 a89 w90 w91 w92 w93) (cwV 0 ht (zgV zm_459 zm_460 zm_461 zm_2 zm_462) rfl rfl rfl (by decide +kernel) ⟨(Nat.le_of_ble_eq_true rfl), (Nat.le_of_ble_eq_true rfl)⟩) hK hE hS hA hW [0, 2, 3, 6] (by decide) rfl 0 rfl rfl rfl rfl hl.1 rfl (Nat.le_of_ble_eq_true rfl) dL_law_482 (Nat.le_of_ble_eq_true rfl) (Nat.le_of_ble_eq_true rfl)) hS hA hW [0, 2, 3, 6] [1, 4, 5] rfl rfl (by decide) (by decide) (fun r1_ u H locs hw hW hS => ?_)
  have hW : zPD D _ [(a1, .inr (9, [w10, w11, w12, w13, w14, w15, w16, w17, w18, w19, w20, w21, w22, w23, .int 0, w24, .int 0, .int 0, w25, w26, w27, .ref a28, w29, w30, w31, w32, w33, .int 0, w34, w35, .ref a36, w37, w38, w39, w40, w41, w42, w43, w44, w45, w46, w47, w48, w49, w50, w51, w52, w53, w54, w55, w56, w57, w58, w59, w60, w61, w62, w63, w64, w65, w66, w67, w68, w69, w70, w71, w72, w73, w74, w75, w76, w77, w78, w79, w80, w81])), (a28, .inl (y 0, 60, .inl (fun _ => 0))), (a36, .inl (y 0, 15, .inl (upd (upd (upd (upd (upd (upd (upd (upd (upd (upd (upd (upd (upd (upd (upd (fun _ => 0) 0 119) 1 101) 2 116) 3 100) 4 114) 5 121) 6 115) 7 116) 8 97) 9 105) 10 114) 11 108) 12 97) 13 115) 14 116)))] H := hW
  have hw : r1_ = (-10) := hw
  subst hw
  refine lv_aload_n hx hb dL_law_485 rfl (lv_at hl 1 rfl) ?_
  refine zgo_i (wr := []) (zrunV (As := []) (rest := [.int (-10)]) ⟨hx, hb, hml, hown, ht⟩ (zc_X10_house_0 l D y a1 w10 w11 w12 w13 w14 w15 w16 w17 w18 w19 w20 w21 w22 w23 w24 w25 w26 w27 a28 w29 w30 w31 w32 w33 w34 w35 a36 w37 w38 w39 w40 w41 w42 w43 w44 w45 w46 w47 w48 w49 w50 w51 w52 w53 w54 w55 w56 w57 w58 w59 w60 w61 w62 w63 w64 w65 w66 w67 w68 w69 w70 w71 w72 w73 w74 w75 w76 w77 w78 w79 w80 w81) (cwV 0 ht (zgV zm_639 zm_640 zm_641 zm_5 zm_642) rfl rfl rfl (by decide +kernel) ⟨(Nat.le_of_ble_eq_true rfl), (Nat.le_of_ble_eq_true rfl)⟩) hK hE hS hA hW [0, 1, 2] (by decide) rfl 0 rfl rfl rfl rfl hl.1 rfl (Nat.le_of_ble_eq_true rfl) dL_law_486 (Nat.le_of_ble_eq_true rfl) (Nat.le_of_ble_eq_true rfl)) hS hA hW [0, 1, 2] [] rfl rfl (by decide) (by decide) (fun r2_ u H locs hw hW hS => ?_)
  have hW : zPD D _ [] H := hW
  have hw : r2_ = (-10) := hw
  subst hw
  refine lv_icmp_eq (tgt := 1340) hx hb dL_law_489 (by decide) (fun c3_ => ?_) (fun c3_ => absurd (by decide) c3_)
  exact zl_end l C0 hS (lv_sub hl [0, 3] rfl)
set_option maxHeartbeats 8000000 in
set_option maxRecDepth 100000 in
theorem zl_case_8 {p : Program} {e : Env} {s : State} {m : MethodId} {below : List Frame} {meth : Method} {c : Code} (l : Launch) {b : Nat} {xs : Nat → Int32} (C0 : lw_At p s m meth c b 6 xs) (D : va_G) (y : Nat → ClassId) (a0 : Nat) (a1 : Nat) (w2 : Value) (w3 : Value) (w4 : Value) (a5 : Nat) (w6 : Value) (w7 : Value) (w8 : Value) (w9 : Value) (w10 : Value) (w11 : Value) (w12 : Value) (w13 : Value) (w14 : Value) (w15 : Value) (w16 : Value) (w17 : Value) (w18 : Value) (w19 : Value) (w20 : Value) (w21 : Value) (w22 : Value) (w23 : Value) (w24 : Value) (w25 : Value) (w26 : Value) (w27 : Value) (w28 : Value) (w29 : Value) (w30 : Value) (w31 : Value) (w32 : Value) (w33 : Value) (w34 : Value) (w35 : Value) (w36 : Value) (w37 : Value) (w38 : Value) (w39 : Value) (w40 : Value) (w41 : Value) (w42 : Value) (w43 : Value) (w44 : Value) (w45 : Value) (w46 : Value) (w47 : Value) (w48 : Value) (w49 : Value) (w50 : Value) (w51 : Value) (w52 : Value) (w53 : Value) (w54 : Value) (w55 : Value) (w56 : Value) (w57 : Value) (w58 : Value) (w59 : Value) (w60 : Value) (w61 : Value) (w62 : Value) (w63 : Value) (w64 : Value) (w65 : Value) (w66 : Value) (w67 : Value) (w68 : Value) (w69 : Value) (w70 : Value) (w71 : Value) (w72 : Value) (w73 : Value) (w74 : Value) (w75 : Value) (w76 : Value) (w77 : Value) (w78 : Value) (w79 : Value) (a80 : Nat) (w81 : Value) (w82 : Value) (w83 : Value) (w84 : Value) (w85 : Value) (w86 : Value) (w87 : Value) (w88 : Value) (w89 : Value) (hK : zK D y s) (hE : zE y (fun q : Nat => s.heap.size ≤ q) s s.heap) {H : Heap} {locs : List Loc} {ls : Array Slot} (hS : va_S (fun q : Nat => s.heap.size ≤ q) s.heap H locs) (hW : zPD D (fun q : Nat => s.heap.size ≤ q) [(a0, .inr (8, [w2, w3, w4, .ref a5, w6, w7, w8, w9, w10])), (a1, .inr (9, [.int 0, .int 0, .int 0, .int 20, .int 0, .int 0, .int 0, w11, w12, w13, w14, w15, w16, w17, w18, .int (-1), w19, w20, w21, w22, w23, w24, w25, w26, w27, w28, w29, w30, w31, w32, w33, w34, w35, w36, w37, w38, w39, w40, w41, w42, w43, w44, w45, w46, w47, w48, w49, w50, w51, w52, w53, w54, w55, w56, w57, w58, w59, w60, w61, w62, w63, w64, w65, w66, w67, w68, w69, w70, w71, w72, w73, w74, w75, w76, w77, w78])), (a5, .inr (6, [w79, .int 0, .int 20, .int 0, .int 0, .int 0, .int 0, .int 0, .ref a80, w81, w82, w83])), (a80, .inr (2, [.int 2, .int 15, w84, w85, w86, w87, w88, w89]))] H) (hl : lv_has ls 4 [(3, .int 0), (2, .ref a1), (1, .ref a0), (0, .ref b)]) : W p l e room_1 s m #[Value.ref b] below meth c H locs 1000 20000 (lw_Z below #[Value.ref b] s) (F0 m 494 ls []) := by
  obtain ⟨hx, hb, hr, hml, hown, hts, hX, hbl, hlocks, hgv⟩ := id C0
  have ht : ∀ w ∈ zT, w.before #[Value.ref b] s = true := fun w h => hts w (zgin w h).1
  have hown : s.vm.findClass RL = some m.cls := hown
  have hA : ∀ q : Nat, s.heap.size ≤ q → (fun q : Nat => s.heap.size ≤ q) q := fun _ h => h
  have hbA : ¬ (fun q : Nat => s.heap.size ≤ q) b := Nat.not_le.mpr hbl
  refine lv_aload_n hx hb dL_law_494 rfl (lv_at hl 2 rfl) ?_
  refine lv_aload_n hx hb dL_law_495 rfl (lv_at hl 3 rfl) ?_
  refine lv_iload_n hx hb dL_law_496 rfl (lv_at hl 0 rfl) ?_
  refine lv_iconst (v := 1) hx hb dL_law_497 (by decide) ?_
  refine lv_iadd hx hb dL_law_498 ?_
  refine ztop (w := .int 1) (congrArg Value.int (by decide)) ?_
  refine va_sld hx hb hX hbl hbA hS (by unfold vp_in; decide) dL_law_499 ?_
  refine ztop (w := .int (xs 1)) rfl ?_
  refine zgo_i (wr := [(a1, .inr (9, [.int 0, .int 0, .int 0, .int 20, .int 0, .int 0, .int 0, w11, w12, w13, w14, w15, w16, w17, w18, .int (-1), w19, w20, w21, w22, w23, w24, w25, w26, w27, w28, w29, w30, w31, w32, w33, w34, w35, w36, w37, w38, w39, w40, w41, w42, w43, w44, w45, w46, w47, w48, w49, w50, w51, w52, w53, w54, w55, w56, w57, w58, w59, w60, w61, w62, w63, w64, w65, w66, w67, w68, w69, w70, w71, w72, w73, w74, w75, w76, w77, w78]))]) (zrunV (As := [.int (xs 1)]) (rest := []) ⟨hx, hb, hml, hown, ht⟩ (zc_X9_told_0 l D y a0 (xs 1) w2 w3 w4 a5 w6 w7 w8 w9 w10 w79 a80 w81 w82 w83 w84 w85 w86 w87 w88 w89) (cwV 1 ht (zgV zm_699 zm_700 zm_701 zm_2 zm_702) rfl rfl rfl (by decide +kernel) ⟨(Nat.le_of_ble_eq_true rfl), (Nat.le_of_ble_eq_true rfl)⟩) hK hE hS hA hW [0, 2, 3] (by decide) rfl 0 rfl rfl rfl rfl hl.1 rfl (Nat.le_of_ble_eq_true rfl) dL_law_500 (Nat.le_of_ble_eq_true rfl) (Nat.le_of_ble_eq_true rfl)) hS hA hW [0, 2, 3] [1] rfl rfl (by decide) (by decide) (fun r1_ u H locs hw hW hS => ?_)
  have hW : zPD D _ [(a1, .inr (9, [.int 0, .int 0, .int 0, .int 20, .int 0, .int 0, .int 0, w11, w12, w13, w14, w15, w16, w17, w18, .int (-1), w19, w20, w21, w22, w23, w24, w25, w26, w27, w28, w29, w30, w31, w32, w33, w34, w35, w36, w37, w38, w39, w40, w41, w42, w43, w44, w45, w46, w47, w48, w49, w50, w51, w52, w53, w54, w55, w56, w57, w58, w59, w60, w61, w62, w63, w64, w65, w66, w67, w68, w69, w70, w71, w72, w73, w74, w75, w76, w77, w78]))] H := hW
  have hw : r1_ = (if (xs 1) = 0 then 0 else (if (xs 1) = 1 then 0 else (if (xs 1) = 2 then 20 else (if (xs 1) = 3 then 0 else (if (xs 1) = 4 then 2 else (if (xs 1) = 5 then 15 else (if (xs 1) = 6 then 0 else (if (xs 1) = 7 then 0 else (if (xs 1) = 8 then 0 else (-1)))))))))) := hw
  by_cases c2_ : (xs 1) = 0
  · have b3_ : 0 ≤ Int32.toInt (xs 1) ∧ Int32.toInt (xs 1) ≤ 0 := (by have u0 := zbnd (xs 1); have u1 := (zi_eq _ _).mp c2_; have u2 : (0 : Int32).toInt = 0 := (by decide); omega)
    rw [if_pos c2_] at hw
    subst hw
    refine lv_aload_n hx hb dL_law_503 rfl (lv_at hl 1 rfl) ?_
    refine lv_aload_n hx hb dL_law_504 rfl (lv_at hl 3 rfl) ?_
    refine lv_iload_n hx hb dL_law_505 rfl (lv_at hl 0 rfl) ?_
    refine lv_iconst (v := 1) hx hb dL_law_506 (by decide) ?_
    refine lv_iadd hx hb dL_law_507 ?_
    refine ztop (w := .int 1) (congrArg Value.int (by decide)) ?_
    refine va_sld hx hb hX hbl hbA hS (by unfold vp_in; decide) dL_law_508 ?_
    refine ztop (w := .int (xs 1)) rfl ?_
    refine zgo_i (wr := []) (zrunV (As := [.int (xs 1)]) (rest := [.int 0]) ⟨hx, hb, hml, hown, ht⟩ (zc_X10_told_0 l D y a1 (xs 1) w11 w12 w13 w14 w15 w16 w17 w18 w19 w20 w21 w22 w23 w24 w25 w26 w27 w28 w29 w30 w31 w32 w33 w34 w35 w36 w37 w38 w39 w40 w41 w42 w43 w44 w45 w46 w47 w48 w49 w50 w51 w52 w53 w54 w55 w56 w57 w58 w59 w60 w61 w62 w63 w64 w65 w66 w67 w68 w69 w70 w71 w72 w73 w74 w75 w76 w77 w78) (cwV 1 ht (zgV zm_710 zm_711 zm_712 zm_5 zm_713) rfl rfl rfl (by decide +kernel) ⟨(Nat.le_of_ble_eq_true rfl), (Nat.le_of_ble_eq_true rfl)⟩) hK hE hS hA hW [0] (by decide) rfl 0 rfl rfl rfl rfl hl.1 rfl (Nat.le_of_ble_eq_true rfl) dL_law_509 (Nat.le_of_ble_eq_true rfl) (Nat.le_of_ble_eq_true rfl)) hS hA hW [0] [] rfl rfl (by decide) (by decide) (fun r4_ u H locs hw hW hS => ?_)
    have hW : zPD D _ [] H := hW
    have hw : r4_ = (if (xs 1) = 0 then 0 else (if (xs 1) = 1 then 0 else (if (xs 1) = 2 then 20 else (if (xs 1) = 3 then 0 else (if (xs 1) = 4 then 2 else (if (xs 1) = 5 then 15 else (if (xs 1) = 6 then 0 else (if (xs 1) = 7 then 0 else (if (xs 1) = 8 then 0 else (-1)))))))))) := hw
    rw [if_pos c2_] at hw
    subst hw
    refine lv_icmp_eq (tgt := 1340) hx hb dL_law_512 (by decide) (fun c5_ => ?_) (fun c5_ => absurd (by decide) c5_)
    exact zl_end l C0 hS (lv_sub hl [0, 3] rfl)
  · have b6_ : (-2147483648) ≤ Int32.toInt (xs 1) ∧ Int32.toInt (xs 1) ≤ 2147483647 := (by have u0 := zbnd (xs 1); have u1 := (not_congr (zi_eq _ _)).mp c2_; have u2 : (0 : Int32).toInt = 0 := (by decide); omega)
    rw [if_neg c2_] at hw
    by_cases c7_ : (xs 1) = 1
    · have b8_ : 1 ≤ Int32.toInt (xs 1) ∧ Int32.toInt (xs 1) ≤ 1 := (by have u0 := b6_; have u1 := (zi_eq _ _).mp c7_; have u2 : (1 : Int32).toInt = 1 := (by decide); omega)
      rw [if_pos c7_] at hw
      subst hw
      refine lv_aload_n hx hb dL_law_503 rfl (lv_at hl 1 rfl) ?_
      refine lv_aload_n hx hb dL_law_504 rfl (lv_at hl 3 rfl) ?_
      refine lv_iload_n hx hb dL_law_505 rfl (lv_at hl 0 rfl) ?_
      refine lv_iconst (v := 1) hx hb dL_law_506 (by decide) ?_
      refine lv_iadd hx hb dL_law_507 ?_
      refine ztop (w := .int 1) (congrArg Value.int (by decide)) ?_
      refine va_sld hx hb hX hbl hbA hS (by unfold vp_in; decide) dL_law_508 ?_
      refine ztop (w := .int (xs 1)) rfl ?_
      refine zgo_i (wr := []) (zrunV (As := [.int (xs 1)]) (rest := [.int 0]) ⟨hx, hb, hml, hown, ht⟩ (zc_X10_told_0 l D y a1 (xs 1) w11 w12 w13 w14 w15 w16 w17 w18 w19 w20 w21 w22 w23 w24 w25 w26 w27 w28 w29 w30 w31 w32 w33 w34 w35 w36 w37 w38 w39 w40 w41 w42 w43 w44 w45 w46 w47 w48 w49 w50 w51 w52 w53 w54 w55 w56 w57 w58 w59 w60 w61 w62 w63 w64 w65 w66 w67 w68 w69 w70 w71 w72 w73 w74 w75 w76 w77 w78) (cwV 1 ht (zgV zm_710 zm_711 zm_712 zm_5 zm_713) rfl rfl rfl (by decide +kernel) ⟨(Nat.le_of_ble_eq_true rfl), (Nat.le_of_ble_eq_true rfl)⟩) hK hE hS hA hW [0] (by decide) rfl 0 rfl rfl rfl rfl hl.1 rfl (Nat.le_of_ble_eq_true rfl) dL_law_509 (Nat.le_of_ble_eq_true rfl) (Nat.le_of_ble_eq_true rfl)) hS hA hW [0] [] rfl rfl (by decide) (by decide) (fun r9_ u H locs hw hW hS => ?_)
      have hW : zPD D _ [] H := hW
      have hw : r9_ = (if (xs 1) = 0 then 0 else (if (xs 1) = 1 then 0 else (if (xs 1) = 2 then 20 else (if (xs 1) = 3 then 0 else (if (xs 1) = 4 then 2 else (if (xs 1) = 5 then 15 else (if (xs 1) = 6 then 0 else (if (xs 1) = 7 then 0 else (if (xs 1) = 8 then 0 else (-1)))))))))) := hw
      rw [if_neg c2_] at hw
      rw [if_pos c7_] at hw
      subst hw
      refine lv_icmp_eq (tgt := 1340) hx hb dL_law_512 (by decide) (fun c10_ => ?_) (fun c10_ => absurd (by decide) c10_)
      exact zl_end l C0 hS (lv_sub hl [0, 3] rfl)
    · rw [if_neg c7_] at hw
      by_cases c11_ : (xs 1) = 2
      · have b12_ : 2 ≤ Int32.toInt (xs 1) ∧ Int32.toInt (xs 1) ≤ 2 := (by have u0 := b6_; have u1 := (zi_eq _ _).mp c11_; have u2 : (2 : Int32).toInt = 2 := (by decide); omega)
        rw [if_pos c11_] at hw
        subst hw
        refine lv_aload_n hx hb dL_law_503 rfl (lv_at hl 1 rfl) ?_
        refine lv_aload_n hx hb dL_law_504 rfl (lv_at hl 3 rfl) ?_
        refine lv_iload_n hx hb dL_law_505 rfl (lv_at hl 0 rfl) ?_
        refine lv_iconst (v := 1) hx hb dL_law_506 (by decide) ?_
        refine lv_iadd hx hb dL_law_507 ?_
        refine ztop (w := .int 1) (congrArg Value.int (by decide)) ?_
        refine va_sld hx hb hX hbl hbA hS (by unfold vp_in; decide) dL_law_508 ?_
        refine ztop (w := .int (xs 1)) rfl ?_
        refine zgo_i (wr := []) (zrunV (As := [.int (xs 1)]) (rest := [.int 20]) ⟨hx, hb, hml, hown, ht⟩ (zc_X10_told_0 l D y a1 (xs 1) w11 w12 w13 w14 w15 w16 w17 w18 w19 w20 w21 w22 w23 w24 w25 w26 w27 w28 w29 w30 w31 w32 w33 w34 w35 w36 w37 w38 w39 w40 w41 w42 w43 w44 w45 w46 w47 w48 w49 w50 w51 w52 w53 w54 w55 w56 w57 w58 w59 w60 w61 w62 w63 w64 w65 w66 w67 w68 w69 w70 w71 w72 w73 w74 w75 w76 w77 w78) (cwV 1 ht (zgV zm_710 zm_711 zm_712 zm_5 zm_713) rfl rfl rfl (by decide +kernel) ⟨(Nat.le_of_ble_eq_true rfl), (Nat.le_of_ble_eq_true rfl)⟩) hK hE hS hA hW [0] (by decide) rfl 0 rfl rfl rfl rfl hl.1 rfl (Nat.le_of_ble_eq_true rfl) dL_law_509 (Nat.le_of_ble_eq_true rfl) (Nat.le_of_ble_eq_true rfl)) hS hA hW [0] [] rfl rfl (by decide) (by decide) (fun r13_ u H locs hw hW hS => ?_)
        have hW : zPD D _ [] H := hW
        have hw : r13_ = (if (xs 1) = 0 then 0 else (if (xs 1) = 1 then 0 else (if (xs 1) = 2 then 20 else (if (xs 1) = 3 then 0 else (if (xs 1) = 4 then 2 else (if (xs 1) = 5 then 15 else (if (xs 1) = 6 then 0 else (if (xs 1) = 7 then 0 else (if (xs 1) = 8 then 0 else (-1)))))))))) := hw
        rw [if_neg c2_] at hw
        rw [if_neg c7_] at hw
        rw [if_pos c11_] at hw
        subst hw
        refine lv_icmp_eq (tgt := 1340) hx hb dL_law_512 (by decide) (fun c14_ => ?_) (fun c14_ => absurd (by decide) c14_)
        exact zl_end l C0 hS (lv_sub hl [0, 3] rfl)
      · rw [if_neg c11_] at hw
        by_cases c15_ : (xs 1) = 3
        · have b16_ : 3 ≤ Int32.toInt (xs 1) ∧ Int32.toInt (xs 1) ≤ 3 := (by have u0 := b6_; have u1 := (zi_eq _ _).mp c15_; have u2 : (3 : Int32).toInt = 3 := (by decide); omega)
          rw [if_pos c15_] at hw
          subst hw
          refine lv_aload_n hx hb dL_law_503 rfl (lv_at hl 1 rfl) ?_
          refine lv_aload_n hx hb dL_law_504 rfl (lv_at hl 3 rfl) ?_
          refine lv_iload_n hx hb dL_law_505 rfl (lv_at hl 0 rfl) ?_
          refine lv_iconst (v := 1) hx hb dL_law_506 (by decide) ?_
          refine lv_iadd hx hb dL_law_507 ?_
          refine ztop (w := .int 1) (congrArg Value.int (by decide)) ?_
          refine va_sld hx hb hX hbl hbA hS (by unfold vp_in; decide) dL_law_508 ?_
          refine ztop (w := .int (xs 1)) rfl ?_
          refine zgo_i (wr := []) (zrunV (As := [.int (xs 1)]) (rest := [.int 0]) ⟨hx, hb, hml, hown, ht⟩ (zc_X10_told_0 l D y a1 (xs 1) w11 w12 w13 w14 w15 w16 w17 w18 w19 w20 w21 w22 w23 w24 w25 w26 w27 w28 w29 w30 w31 w32 w33 w34 w35 w36 w37 w38 w39 w40 w41 w42 w43 w44 w45 w46 w47 w48 w49 w50 w51 w52 w53 w54 w55 w56 w57 w58 w59 w60 w61 w62 w63 w64 w65 w66 w67 w68 w69 w70 w71 w72 w73 w74 w75 w76 w77 w78) (cwV 1 ht (zgV zm_710 zm_711 zm_712 zm_5 zm_713) rfl rfl rfl (by decide +kernel) ⟨(Nat.le_of_ble_eq_true rfl), (Nat.le_of_ble_eq_true rfl)⟩) hK hE hS hA hW [0] (by decide) rfl 0 rfl rfl rfl rfl hl.1 rfl (Nat.le_of_ble_eq_true rfl) dL_law_509 (Nat.le_of_ble_eq_true rfl) (Nat.le_of_ble_eq_true rfl)) hS hA hW [0] [] rfl rfl (by decide) (by decide) (fun r17_ u H locs hw hW hS => ?_)
          have hW : zPD D _ [] H := hW
          have hw : r17_ = (if (xs 1) = 0 then 0 else (if (xs 1) = 1 then 0 else (if (xs 1) = 2 then 20 else (if (xs 1) = 3 then 0 else (if (xs 1) = 4 then 2 else (if (xs 1) = 5 then 15 else (if (xs 1) = 6 then 0 else (if (xs 1) = 7 then 0 else (if (xs 1) = 8 then 0 else (-1)))))))))) := hw
          rw [if_neg c2_] at hw
          rw [if_neg c7_] at hw
          rw [if_neg c11_] at hw
          rw [if_pos c15_] at hw
          subst hw
          refine lv_icmp_eq (tgt := 1340) hx hb dL_law_512 (by decide) (fun c18_ => ?_) (fun c18_ => absurd (by decide) c18_)
          exact zl_end l C0 hS (lv_sub hl [0, 3] rfl)
        · rw [if_neg c15_] at hw
          by_cases c19_ : (xs 1) = 4
          · have b20_ : 4 ≤ Int32.toInt (xs 1) ∧ Int32.toInt (xs 1) ≤ 4 := (by have u0 := b6_; have u1 := (zi_eq _ _).mp c19_; have u2 : (4 : Int32).toInt = 4 := (by decide); omega)
            rw [if_pos c19_] at hw
            subst hw
            refine lv_aload_n hx hb dL_law_503 rfl (lv_at hl 1 rfl) ?_
            refine lv_aload_n hx hb dL_law_504 rfl (lv_at hl 3 rfl) ?_
            refine lv_iload_n hx hb dL_law_505 rfl (lv_at hl 0 rfl) ?_
            refine lv_iconst (v := 1) hx hb dL_law_506 (by decide) ?_
            refine lv_iadd hx hb dL_law_507 ?_
            refine ztop (w := .int 1) (congrArg Value.int (by decide)) ?_
            refine va_sld hx hb hX hbl hbA hS (by unfold vp_in; decide) dL_law_508 ?_
            refine ztop (w := .int (xs 1)) rfl ?_
            refine zgo_i (wr := []) (zrunV (As := [.int (xs 1)]) (rest := [.int 2]) ⟨hx, hb, hml, hown, ht⟩ (zc_X10_told_0 l D y a1 (xs 1) w11 w12 w13 w14 w15 w16 w17 w18 w19 w20 w21 w22 w23 w24 w25 w26 w27 w28 w29 w30 w31 w32 w33 w34 w35 w36 w37 w38 w39 w40 w41 w42 w43 w44 w45 w46 w47 w48 w49 w50 w51 w52 w53 w54 w55 w56 w57 w58 w59 w60 w61 w62 w63 w64 w65 w66 w67 w68 w69 w70 w71 w72 w73 w74 w75 w76 w77 w78) (cwV 1 ht (zgV zm_710 zm_711 zm_712 zm_5 zm_713) rfl rfl rfl (by decide +kernel) ⟨(Nat.le_of_ble_eq_true rfl), (Nat.le_of_ble_eq_true rfl)⟩) hK hE hS hA hW [0] (by decide) rfl 0 rfl rfl rfl rfl hl.1 rfl (Nat.le_of_ble_eq_true rfl) dL_law_509 (Nat.le_of_ble_eq_true rfl) (Nat.le_of_ble_eq_true rfl)) hS hA hW [0] [] rfl rfl (by decide) (by decide) (fun r21_ u H locs hw hW hS => ?_)
            have hW : zPD D _ [] H := hW
            have hw : r21_ = (if (xs 1) = 0 then 0 else (if (xs 1) = 1 then 0 else (if (xs 1) = 2 then 20 else (if (xs 1) = 3 then 0 else (if (xs 1) = 4 then 2 else (if (xs 1) = 5 then 15 else (if (xs 1) = 6 then 0 else (if (xs 1) = 7 then 0 else (if (xs 1) = 8 then 0 else (-1)))))))))) := hw
            rw [if_neg c2_] at hw
            rw [if_neg c7_] at hw
            rw [if_neg c11_] at hw
            rw [if_neg c15_] at hw
            rw [if_pos c19_] at hw
            subst hw
            refine lv_icmp_eq (tgt := 1340) hx hb dL_law_512 (by decide) (fun c22_ => ?_) (fun c22_ => absurd (by decide) c22_)
            exact zl_end l C0 hS (lv_sub hl [0, 3] rfl)
          · rw [if_neg c19_] at hw
            by_cases c23_ : (xs 1) = 5
            · have b24_ : 5 ≤ Int32.toInt (xs 1) ∧ Int32.toInt (xs 1) ≤ 5 := (by have u0 := b6_; have u1 := (zi_eq _ _).mp c23_; have u2 : (5 : Int32).toInt = 5 := (by decide); omega)
              rw [if_pos c23_] at hw
              subst hw
              refine lv_aload_n hx hb dL_law_503 rfl (lv_at hl 1 rfl) ?_
              refine lv_aload_n hx hb dL_law_504 rfl (lv_at hl 3 rfl) ?_
              refine lv_iload_n hx hb dL_law_505 rfl (lv_at hl 0 rfl) ?_
              refine lv_iconst (v := 1) hx hb dL_law_506 (by decide) ?_
              refine lv_iadd hx hb dL_law_507 ?_
              refine ztop (w := .int 1) (congrArg Value.int (by decide)) ?_
              refine va_sld hx hb hX hbl hbA hS (by unfold vp_in; decide) dL_law_508 ?_
              refine ztop (w := .int (xs 1)) rfl ?_
              refine zgo_i (wr := []) (zrunV (As := [.int (xs 1)]) (rest := [.int 15]) ⟨hx, hb, hml, hown, ht⟩ (zc_X10_told_0 l D y a1 (xs 1) w11 w12 w13 w14 w15 w16 w17 w18 w19 w20 w21 w22 w23 w24 w25 w26 w27 w28 w29 w30 w31 w32 w33 w34 w35 w36 w37 w38 w39 w40 w41 w42 w43 w44 w45 w46 w47 w48 w49 w50 w51 w52 w53 w54 w55 w56 w57 w58 w59 w60 w61 w62 w63 w64 w65 w66 w67 w68 w69 w70 w71 w72 w73 w74 w75 w76 w77 w78) (cwV 1 ht (zgV zm_710 zm_711 zm_712 zm_5 zm_713) rfl rfl rfl (by decide +kernel) ⟨(Nat.le_of_ble_eq_true rfl), (Nat.le_of_ble_eq_true rfl)⟩) hK hE hS hA hW [0] (by decide) rfl 0 rfl rfl rfl rfl hl.1 rfl (Nat.le_of_ble_eq_true rfl) dL_law_509 (Nat.le_of_ble_eq_true rfl) (Nat.le_of_ble_eq_true rfl)) hS hA hW [0] [] rfl rfl (by decide) (by decide) (fun r25_ u H locs hw hW hS => ?_)
              have hW : zPD D _ [] H := hW
              have hw : r25_ = (if (xs 1) = 0 then 0 else (if (xs 1) = 1 then 0 else (if (xs 1) = 2 then 20 else (if (xs 1) = 3 then 0 else (if (xs 1) = 4 then 2 else (if (xs 1) = 5 then 15 else (if (xs 1) = 6 then 0 else (if (xs 1) = 7 then 0 else (if (xs 1) = 8 then 0 else (-1)))))))))) := hw
              rw [if_neg c2_] at hw
              rw [if_neg c7_] at hw
              rw [if_neg c11_] at hw
              rw [if_neg c15_] at hw
              rw [if_neg c19_] at hw
              rw [if_pos c23_] at hw
              subst hw
              refine lv_icmp_eq (tgt := 1340) hx hb dL_law_512 (by decide) (fun c26_ => ?_) (fun c26_ => absurd (by decide) c26_)
              exact zl_end l C0 hS (lv_sub hl [0, 3] rfl)
            · rw [if_neg c23_] at hw
              by_cases c27_ : (xs 1) = 6
              · have b28_ : 6 ≤ Int32.toInt (xs 1) ∧ Int32.toInt (xs 1) ≤ 6 := (by have u0 := b6_; have u1 := (zi_eq _ _).mp c27_; have u2 : (6 : Int32).toInt = 6 := (by decide); omega)
                rw [if_pos c27_] at hw
                subst hw
                refine lv_aload_n hx hb dL_law_503 rfl (lv_at hl 1 rfl) ?_
                refine lv_aload_n hx hb dL_law_504 rfl (lv_at hl 3 rfl) ?_
                refine lv_iload_n hx hb dL_law_505 rfl (lv_at hl 0 rfl) ?_
                refine lv_iconst (v := 1) hx hb dL_law_506 (by decide) ?_
                refine lv_iadd hx hb dL_law_507 ?_
                refine ztop (w := .int 1) (congrArg Value.int (by decide)) ?_
                refine va_sld hx hb hX hbl hbA hS (by unfold vp_in; decide) dL_law_508 ?_
                refine ztop (w := .int (xs 1)) rfl ?_
                refine zgo_i (wr := []) (zrunV (As := [.int (xs 1)]) (rest := [.int 0]) ⟨hx, hb, hml, hown, ht⟩ (zc_X10_told_0 l D y a1 (xs 1) w11 w12 w13 w14 w15 w16 w17 w18 w19 w20 w21 w22 w23 w24 w25 w26 w27 w28 w29 w30 w31 w32 w33 w34 w35 w36 w37 w38 w39 w40 w41 w42 w43 w44 w45 w46 w47 w48 w49 w50 w51 w52 w53 w54 w55 w56 w57 w58 w59 w60 w61 w62 w63 w64 w65 w66 w67 w68 w69 w70 w71 w72 w73 w74 w75 w76 w77 w78) (cwV 1 ht (zgV zm_710 zm_711 zm_712 zm_5 zm_713) rfl rfl rfl (by decide +kernel) ⟨(Nat.le_of_ble_eq_true rfl), (Nat.le_of_ble_eq_true rfl)⟩) hK hE hS hA hW [0] (by decide) rfl 0 rfl rfl rfl rfl hl.1 rfl (Nat.le_of_ble_eq_true rfl) dL_law_509 (Nat.le_of_ble_eq_true rfl) (Nat.le_of_ble_eq_true rfl)) hS hA hW [0] [] rfl rfl (by decide) (by decide) (fun r29_ u H locs hw hW hS => ?_)
                have hW : zPD D _ [] H := hW
                have hw : r29_ = (if (xs 1) = 0 then 0 else (if (xs 1) = 1 then 0 else (if (xs 1) = 2 then 20 else (if (xs 1) = 3 then 0 else (if (xs 1) = 4 then 2 else (if (xs 1) = 5 then 15 else (if (xs 1) = 6 then 0 else (if (xs 1) = 7 then 0 else (if (xs 1) = 8 then 0 else (-1)))))))))) := hw
                rw [if_neg c2_] at hw
                rw [if_neg c7_] at hw
                rw [if_neg c11_] at hw
                rw [if_neg c15_] at hw
                rw [if_neg c19_] at hw
                rw [if_neg c23_] at hw
                rw [if_pos c27_] at hw
                subst hw
                refine lv_icmp_eq (tgt := 1340) hx hb dL_law_512 (by decide) (fun c30_ => ?_) (fun c30_ => absurd (by decide) c30_)
                exact zl_end l C0 hS (lv_sub hl [0, 3] rfl)
              · rw [if_neg c27_] at hw
                by_cases c31_ : (xs 1) = 7
                · have b32_ : 7 ≤ Int32.toInt (xs 1) ∧ Int32.toInt (xs 1) ≤ 7 := (by have u0 := b6_; have u1 := (zi_eq _ _).mp c31_; have u2 : (7 : Int32).toInt = 7 := (by decide); omega)
                  rw [if_pos c31_] at hw
                  subst hw
                  refine lv_aload_n hx hb dL_law_503 rfl (lv_at hl 1 rfl) ?_
                  refine lv_aload_n hx hb dL_law_504 rfl (lv_at hl 3 rfl) ?_
                  refine lv_iload_n hx hb dL_law_505 rfl (lv_at hl 0 rfl) ?_
                  refine lv_iconst (v := 1) hx hb dL_law_506 (by decide) ?_
                  refine lv_iadd hx hb dL_law_507 ?_
                  refine ztop (w := .int 1) (congrArg Value.int (by decide)) ?_
                  refine va_sld hx hb hX hbl hbA hS (by unfold vp_in; decide) dL_law_508 ?_
                  refine ztop (w := .int (xs 1)) rfl ?_
                  refine zgo_i (wr := []) (zrunV (As := [.int (xs 1)]) (rest := [.int 0]) ⟨hx, hb, hml, hown, ht⟩ (zc_X10_told_0 l D y a1 (xs 1) w11 w12 w13 w14 w15 w16 w17 w18 w19 w20 w21 w22 w23 w24 w25 w26 w27 w28 w29 w30 w31 w32 w33 w34 w35 w36 w37 w38 w39 w40 w41 w42 w43 w44 w45 w46 w47 w48 w49 w50 w51 w52 w53 w54 w55 w56 w57 w58 w59 w60 w61 w62 w63 w64 w65 w66 w67 w68 w69 w70 w71 w72 w73 w74 w75 w76 w77 w78) (cwV 1 ht (zgV zm_710 zm_711 zm_712 zm_5 zm_713) rfl rfl rfl (by decide +kernel) ⟨(Nat.le_of_ble_eq_true rfl), (Nat.le_of_ble_eq_true rfl)⟩) hK hE hS hA hW [0] (by decide) rfl 0 rfl rfl rfl rfl hl.1 rfl (Nat.le_of_ble_eq_true rfl) dL_law_509 (Nat.le_of_ble_eq_true rfl) (Nat.le_of_ble_eq_true rfl)) hS hA hW [0] [] rfl rfl (by decide) (by decide) (fun r33_ u H locs hw hW hS => ?_)
                  have hW : zPD D _ [] H := hW
                  have hw : r33_ = (if (xs 1) = 0 then 0 else (if (xs 1) = 1 then 0 else (if (xs 1) = 2 then 20 else (if (xs 1) = 3 then 0 else (if (xs 1) = 4 then 2 else (if (xs 1) = 5 then 15 else (if (xs 1) = 6 then 0 else (if (xs 1) = 7 then 0 else (if (xs 1) = 8 then 0 else (-1)))))))))) := hw
                  rw [if_neg c2_] at hw
                  rw [if_neg c7_] at hw
                  rw [if_neg c11_] at hw
                  rw [if_neg c15_] at hw
                  rw [if_neg c19_] at hw
                  rw [if_neg c23_] at hw
                  rw [if_neg c27_] at hw
                  rw [if_pos c31_] at hw
                  subst hw
                  refine lv_icmp_eq (tgt := 1340) hx hb dL_law_512 (by decide) (fun c34_ => ?_) (fun c34_ => absurd (by decide) c34_)
                  exact zl_end l C0 hS (lv_sub hl [0, 3] rfl)
                · rw [if_neg c31_] at hw
                  by_cases c35_ : (xs 1) = 8
                  · have b36_ : 8 ≤ Int32.toInt (xs 1) ∧ Int32.toInt (xs 1) ≤ 8 := (by have u0 := b6_; have u1 := (zi_eq _ _).mp c35_; have u2 : (8 : Int32).toInt = 8 := (by decide); omega)
                    rw [if_pos c35_] at hw
                    subst hw
                    refine lv_aload_n hx hb dL_law_503 rfl (lv_at hl 1 rfl) ?_
                    refine lv_aload_n hx hb dL_law_504 rfl (lv_at hl 3 rfl) ?_
                    refine lv_iload_n hx hb dL_law_505 rfl (lv_at hl 0 rfl) ?_
                    refine lv_iconst (v := 1) hx hb dL_law_506 (by decide) ?_
                    refine lv_iadd hx hb dL_law_507 ?_
                    refine ztop (w := .int 1) (congrArg Value.int (by decide)) ?_
                    refine va_sld hx hb hX hbl hbA hS (by unfold vp_in; decide) dL_law_508 ?_
                    refine ztop (w := .int (xs 1)) rfl ?_
                    refine zgo_i (wr := []) (zrunV (As := [.int (xs 1)]) (rest := [.int 0]) ⟨hx, hb, hml, hown, ht⟩ (zc_X10_told_0 l D y a1 (xs 1) w11 w12 w13 w14 w15 w16 w17 w18 w19 w20 w21 w22 w23 w24 w25 w26 w27 w28 w29 w30 w31 w32 w33 w34 w35 w36 w37 w38 w39 w40 w41 w42 w43 w44 w45 w46 w47 w48 w49 w50 w51 w52 w53 w54 w55 w56 w57 w58 w59 w60 w61 w62 w63 w64 w65 w66 w67 w68 w69 w70 w71 w72 w73 w74 w75 w76 w77 w78) (cwV 1 ht (zgV zm_710 zm_711 zm_712 zm_5 zm_713) rfl rfl rfl (by decide +kernel) ⟨(Nat.le_of_ble_eq_true rfl), (Nat.le_of_ble_eq_true rfl)⟩) hK hE hS hA hW [0] (by decide) rfl 0 rfl rfl rfl rfl hl.1 rfl (Nat.le_of_ble_eq_true rfl) dL_law_509 (Nat.le_of_ble_eq_true rfl) (Nat.le_of_ble_eq_true rfl)) hS hA hW [0] [] rfl rfl (by decide) (by decide) (fun r37_ u H locs hw hW hS => ?_)
                    have hW : zPD D _ [] H := hW
                    have hw : r37_ = (if (xs 1) = 0 then 0 else (if (xs 1) = 1 then 0 else (if (xs 1) = 2 then 20 else (if (xs 1) = 3 then 0 else (if (xs 1) = 4 then 2 else (if (xs 1) = 5 then 15 else (if (xs 1) = 6 then 0 else (if (xs 1) = 7 then 0 else (if (xs 1) = 8 then 0 else (-1)))))))))) := hw
                    rw [if_neg c2_] at hw
                    rw [if_neg c7_] at hw
                    rw [if_neg c11_] at hw
                    rw [if_neg c15_] at hw
                    rw [if_neg c19_] at hw
                    rw [if_neg c23_] at hw
                    rw [if_neg c27_] at hw
                    rw [if_neg c31_] at hw
                    rw [if_pos c35_] at hw
                    subst hw
                    refine lv_icmp_eq (tgt := 1340) hx hb dL_law_512 (by decide) (fun c38_ => ?_) (fun c38_ => absurd (by decide) c38_)
                    exact zl_end l C0 hS (lv_sub hl [0, 3] rfl)
                  · rw [if_neg c35_] at hw
                    subst hw
                    refine lv_aload_n hx hb dL_law_503 rfl (lv_at hl 1 rfl) ?_
                    refine lv_aload_n hx hb dL_law_504 rfl (lv_at hl 3 rfl) ?_
                    refine lv_iload_n hx hb dL_law_505 rfl (lv_at hl 0 rfl) ?_
                    refine lv_iconst (v := 1) hx hb dL_law_506 (by decide) ?_
                    refine lv_iadd hx hb dL_law_507 ?_
                    refine ztop (w := .int 1) (congrArg Value.int (by decide)) ?_
                    refine va_sld hx hb hX hbl hbA hS (by unfold vp_in; decide) dL_law_508 ?_
                    refine ztop (w := .int (xs 1)) rfl ?_
                    refine zgo_i (wr := []) (zrunV (As := [.int (xs 1)]) (rest := [.int (-1)]) ⟨hx, hb, hml, hown, ht⟩ (zc_X10_told_0 l D y a1 (xs 1) w11 w12 w13 w14 w15 w16 w17 w18 w19 w20 w21 w22 w23 w24 w25 w26 w27 w28 w29 w30 w31 w32 w33 w34 w35 w36 w37 w38 w39 w40 w41 w42 w43 w44 w45 w46 w47 w48 w49 w50 w51 w52 w53 w54 w55 w56 w57 w58 w59 w60 w61 w62 w63 w64 w65 w66 w67 w68 w69 w70 w71 w72 w73 w74 w75 w76 w77 w78) (cwV 1 ht (zgV zm_710 zm_711 zm_712 zm_5 zm_713) rfl rfl rfl (by decide +kernel) ⟨(Nat.le_of_ble_eq_true rfl), (Nat.le_of_ble_eq_true rfl)⟩) hK hE hS hA hW [0] (by decide) rfl 0 rfl rfl rfl rfl hl.1 rfl (Nat.le_of_ble_eq_true rfl) dL_law_509 (Nat.le_of_ble_eq_true rfl) (Nat.le_of_ble_eq_true rfl)) hS hA hW [0] [] rfl rfl (by decide) (by decide) (fun r39_ u H locs hw hW hS => ?_)
                    have hW : zPD D _ [] H := hW
                    have hw : r39_ = (if (xs 1) = 0 then 0 else (if (xs 1) = 1 then 0 else (if (xs 1) = 2 then 20 else (if (xs 1) = 3 then 0 else (if (xs 1) = 4 then 2 else (if (xs 1) = 5 then 15 else (if (xs 1) = 6 then 0 else (if (xs 1) = 7 then 0 else (if (xs 1) = 8 then 0 else (-1)))))))))) := hw
                    rw [if_neg c2_] at hw
                    rw [if_neg c7_] at hw
                    rw [if_neg c11_] at hw
                    rw [if_neg c15_] at hw
                    rw [if_neg c19_] at hw
                    rw [if_neg c23_] at hw
                    rw [if_neg c27_] at hw
                    rw [if_neg c31_] at hw
                    rw [if_neg c35_] at hw
                    subst hw
                    refine lv_icmp_eq (tgt := 1340) hx hb dL_law_512 (by decide) (fun c40_ => ?_) (fun c40_ => absurd (by decide) c40_)
                    exact zl_end l C0 hS (lv_sub hl [0, 3] rfl)
