theorem dX8_digest_174 : decode cX8_digest 174 = .ok (.iinc 4 1, 3) := by decide +kernel
theorem dX8_digest_177 : decode cX8_digest 177 = .ok (.goto (-110), 3) := by decide +kernel
theorem dX8_digest_180 : decode cX8_digest 180 = .ok (.iinc 3 1, 3) := by decide +kernel
theorem dX8_digest_183 : decode cX8_digest 183 = .ok (.goto (-124), 3) := by decide +kernel
theorem dX8_digest_186 : decode cX8_digest 186 = .ok (.iconst 0, 1) := by decide +kernel
theorem dX8_digest_187 : decode cX8_digest 187 = .ok (.istore_n 3, 1) := by decide +kernel
theorem dX8_digest_188 : decode cX8_digest 188 = .ok (.iload_n 3, 1) := by decide +kernel
theorem dX8_digest_189 : decode cX8_digest 189 = .ok (.aload_n 0, 1) := by decide +kernel
theorem dX8_digest_190 : decode cX8_digest 190 = .ok (.getfield 24, 3) := by decide +kernel
theorem dX8_digest_193 : decode cX8_digest 193 = .ok (.getfield 182, 3) := by decide +kernel
theorem dX8_digest_196 : decode cX8_digest 196 = .ok (.if_icmp .ge 73, 3) := by decide +kernel
theorem dX8_digest_199 : decode cX8_digest 199 = .ok (.ldc2_w 289, 3) := by decide +kernel
theorem dX8_digest_202 : decode cX8_digest 202 = .ok (.lload_n 1, 1) := by decide +kernel
theorem dX8_digest_203 : decode cX8_digest 203 = .ok (.lmul, 1) := by decide +kernel
theorem dX8_digest_204 : decode cX8_digest 204 = .ok (.aload_n 0, 1) := by decide +kernel
theorem dX8_digest_205 : decode cX8_digest 205 = .ok (.bipush 9, 2) := by decide +kernel
theorem dX8_digest_207 : decode cX8_digest 207 = .ok (.iload_n 3, 1) := by decide +kernel
theorem dX8_digest_208 : decode cX8_digest 208 = .ok (.iconst 0, 1) := by decide +kernel
theorem dX8_digest_209 : decode cX8_digest 209 = .ok (.invokevirtual 306, 3) := by decide +kernel
theorem dX8_digest_212 : decode cX8_digest 212 = .ok (.i2l, 1) := by decide +kernel
theorem dX8_digest_213 : decode cX8_digest 213 = .ok (.ladd, 1) := by decide +kernel
theorem dX8_digest_214 : decode cX8_digest 214 = .ok (.lstore_n 1, 1) := by decide +kernel
theorem dX8_digest_215 : decode cX8_digest 215 = .ok (.ldc2_w 289, 3) := by decide +kernel
theorem dX8_digest_218 : decode cX8_digest 218 = .ok (.lload_n 1, 1) := by decide +kernel
theorem dX8_digest_219 : decode cX8_digest 219 = .ok (.lmul, 1) := by decide +kernel
theorem dX8_digest_220 : decode cX8_digest 220 = .ok (.aload_n 0, 1) := by decide +kernel
theorem dX8_digest_221 : decode cX8_digest 221 = .ok (.bipush 9, 2) := by decide +kernel
theorem dX8_digest_223 : decode cX8_digest 223 = .ok (.iload_n 3, 1) := by decide +kernel
theorem dX8_digest_224 : decode cX8_digest 224 = .ok (.iconst 1, 1) := by decide +kernel
theorem dX8_digest_225 : decode cX8_digest 225 = .ok (.invokevirtual 306, 3) := by decide +kernel
theorem dX8_digest_228 : decode cX8_digest 228 = .ok (.i2l, 1) := by decide +kernel
theorem dX8_digest_229 : decode cX8_digest 229 = .ok (.ladd, 1) := by decide +kernel
theorem dX8_digest_230 : decode cX8_digest 230 = .ok (.lstore_n 1, 1) := by decide +kernel
theorem dX8_digest_231 : decode cX8_digest 231 = .ok (.ldc2_w 289, 3) := by decide +kernel
theorem dX8_digest_234 : decode cX8_digest 234 = .ok (.lload_n 1, 1) := by decide +kernel
theorem dX8_digest_235 : decode cX8_digest 235 = .ok (.lmul, 1) := by decide +kernel
theorem dX8_digest_236 : decode cX8_digest 236 = .ok (.aload_n 0, 1) := by decide +kernel
theorem dX8_digest_237 : decode cX8_digest 237 = .ok (.bipush 19, 2) := by decide +kernel
theorem dX8_digest_239 : decode cX8_digest 239 = .ok (.iload_n 3, 1) := by decide +kernel
theorem dX8_digest_240 : decode cX8_digest 240 = .ok (.iconst 0, 1) := by decide +kernel
theorem dX8_digest_241 : decode cX8_digest 241 = .ok (.invokevirtual 306, 3) := by decide +kernel
theorem dX8_digest_244 : decode cX8_digest 244 = .ok (.i2l, 1) := by decide +kernel
theorem dX8_digest_245 : decode cX8_digest 245 = .ok (.ladd, 1) := by decide +kernel
theorem dX8_digest_246 : decode cX8_digest 246 = .ok (.lstore_n 1, 1) := by decide +kernel
theorem dX8_digest_247 : decode cX8_digest 247 = .ok (.ldc2_w 289, 3) := by decide +kernel
theorem dX8_digest_250 : decode cX8_digest 250 = .ok (.lload_n 1, 1) := by decide +kernel
theorem dX8_digest_251 : decode cX8_digest 251 = .ok (.lmul, 1) := by decide +kernel
theorem dX8_digest_252 : decode cX8_digest 252 = .ok (.aload_n 0, 1) := by decide +kernel
theorem dX8_digest_253 : decode cX8_digest 253 = .ok (.bipush 19, 2) := by decide +kernel
theorem dX8_digest_255 : decode cX8_digest 255 = .ok (.iload_n 3, 1) := by decide +kernel
theorem dX8_digest_256 : decode cX8_digest 256 = .ok (.iconst 1, 1) := by decide +kernel
theorem dX8_digest_257 : decode cX8_digest 257 = .ok (.invokevirtual 306, 3) := by decide +kernel
theorem dX8_digest_260 : decode cX8_digest 260 = .ok (.i2l, 1) := by decide +kernel
theorem dX8_digest_261 : decode cX8_digest 261 = .ok (.ladd, 1) := by decide +kernel
theorem dX8_digest_262 : decode cX8_digest 262 = .ok (.lstore_n 1, 1) := by decide +kernel
theorem dX8_digest_263 : decode cX8_digest 263 = .ok (.iinc 3 1, 3) := by decide +kernel
theorem dX8_digest_266 : decode cX8_digest 266 = .ok (.goto (-78), 3) := by decide +kernel
theorem dX8_digest_269 : decode cX8_digest 269 = .ok (.iconst 0, 1) := by decide +kernel
theorem dX8_digest_270 : decode cX8_digest 270 = .ok (.istore_n 3, 1) := by decide +kernel
theorem dX8_digest_271 : decode cX8_digest 271 = .ok (.iload_n 3, 1) := by decide +kernel
theorem dX8_digest_272 : decode cX8_digest 272 = .ok (.bipush 20, 2) := by decide +kernel
theorem dX8_digest_274 : decode cX8_digest 274 = .ok (.if_icmp .ge 22, 3) := by decide +kernel
theorem dX8_digest_277 : decode cX8_digest 277 = .ok (.ldc2_w 289, 3) := by decide +kernel
theorem dX8_digest_280 : decode cX8_digest 280 = .ok (.lload_n 1, 1) := by decide +kernel
theorem dX8_digest_281 : decode cX8_digest 281 = .ok (.lmul, 1) := by decide +kernel
theorem dX8_digest_282 : decode cX8_digest 282 = .ok (.aload_n 0, 1) := by decide +kernel
theorem dX8_digest_283 : decode cX8_digest 283 = .ok (.iload_n 3, 1) := by decide +kernel
theorem dX8_digest_284 : decode cX8_digest 284 = .ok (.invokevirtual 310, 3) := by decide +kernel
theorem dX8_digest_287 : decode cX8_digest 287 = .ok (.i2l, 1) := by decide +kernel
theorem dX8_digest_288 : decode cX8_digest 288 = .ok (.ladd, 1) := by decide +kernel
theorem dX8_digest_289 : decode cX8_digest 289 = .ok (.lstore_n 1, 1) := by decide +kernel
theorem dX8_digest_290 : decode cX8_digest 290 = .ok (.iinc 3 1, 3) := by decide +kernel
theorem dX8_digest_293 : decode cX8_digest 293 = .ok (.goto (-22), 3) := by decide +kernel
theorem dX8_digest_296 : decode cX8_digest 296 = .ok (.iconst 0, 1) := by decide +kernel
theorem dX8_digest_297 : decode cX8_digest 297 = .ok (.istore_n 3, 1) := by decide +kernel
theorem dX8_digest_298 : decode cX8_digest 298 = .ok (.iload_n 3, 1) := by decide +kernel
theorem dX8_digest_299 : decode cX8_digest 299 = .ok (.aload_n 0, 1) := by decide +kernel
theorem dX8_digest_300 : decode cX8_digest 300 = .ok (.getfield 31, 3) := by decide +kernel
theorem dX8_digest_303 : decode cX8_digest 303 = .ok (.getfield 204, 3) := by decide +kernel
theorem dX8_digest_306 : decode cX8_digest 306 = .ok (.if_icmp .ge 132, 3) := by decide +kernel
theorem dX8_digest_309 : decode cX8_digest 309 = .ok (.ldc2_w 289, 3) := by decide +kernel
theorem dX8_digest_312 : decode cX8_digest 312 = .ok (.lload_n 1, 1) := by decide +kernel
theorem dX8_digest_313 : decode cX8_digest 313 = .ok (.lmul, 1) := by decide +kernel
theorem dX8_digest_314 : decode cX8_digest 314 = .ok (.aload_n 0, 1) := by decide +kernel
theorem dX8_digest_315 : decode cX8_digest 315 = .ok (.iload_n 3, 1) := by decide +kernel
theorem dX8_digest_316 : decode cX8_digest 316 = .ok (.iconst 0, 1) := by decide +kernel
theorem dX8_digest_317 : decode cX8_digest 317 = .ok (.invokevirtual 313, 3) := by decide +kernel
theorem dX8_digest_320 : decode cX8_digest 320 = .ok (.i2l, 1) := by decide +kernel
theorem dX8_digest_321 : decode cX8_digest 321 = .ok (.ladd, 1) := by decide +kernel
theorem dX8_digest_322 : decode cX8_digest 322 = .ok (.lstore_n 1, 1) := by decide +kernel
theorem dX8_digest_323 : decode cX8_digest 323 = .ok (.ldc2_w 289, 3) := by decide +kernel
theorem dX8_digest_326 : decode cX8_digest 326 = .ok (.lload_n 1, 1) := by decide +kernel
theorem dX8_digest_327 : decode cX8_digest 327 = .ok (.lmul, 1) := by decide +kernel
theorem dX8_digest_328 : decode cX8_digest 328 = .ok (.aload_n 0, 1) := by decide +kernel
theorem dX8_digest_329 : decode cX8_digest 329 = .ok (.iload_n 3, 1) := by decide +kernel
theorem dX8_digest_330 : decode cX8_digest 330 = .ok (.iconst 1, 1) := by decide +kernel
theorem dX8_digest_331 : decode cX8_digest 331 = .ok (.invokevirtual 313, 3) := by decide +kernel
theorem dX8_digest_334 : decode cX8_digest 334 = .ok (.i2l, 1) := by decide +kernel
theorem dX8_digest_335 : decode cX8_digest 335 = .ok (.ladd, 1) := by decide +kernel
theorem dX8_digest_336 : decode cX8_digest 336 = .ok (.lstore_n 1, 1) := by decide +kernel
theorem dX8_digest_337 : decode cX8_digest 337 = .ok (.ldc2_w 289, 3) := by decide +kernel
theorem dX8_digest_340 : decode cX8_digest 340 = .ok (.lload_n 1, 1) := by decide +kernel
theorem dX8_digest_341 : decode cX8_digest 341 = .ok (.lmul, 1) := by decide +kernel
theorem dX8_digest_342 : decode cX8_digest 342 = .ok (.aload_n 0, 1) := by decide +kernel
theorem dX8_digest_343 : decode cX8_digest 343 = .ok (.iload_n 3, 1) := by decide +kernel
theorem dX8_digest_344 : decode cX8_digest 344 = .ok (.invokevirtual 316, 3) := by decide +kernel
theorem dX8_digest_347 : decode cX8_digest 347 = .ok (.i2l, 1) := by decide +kernel
theorem dX8_digest_348 : decode cX8_digest 348 = .ok (.ladd, 1) := by decide +kernel
theorem dX8_digest_349 : decode cX8_digest 349 = .ok (.lstore_n 1, 1) := by decide +kernel
theorem dX8_digest_350 : decode cX8_digest 350 = .ok (.ldc2_w 289, 3) := by decide +kernel
theorem dX8_digest_353 : decode cX8_digest 353 = .ok (.lload_n 1, 1) := by decide +kernel
theorem dX8_digest_354 : decode cX8_digest 354 = .ok (.lmul, 1) := by decide +kernel
theorem dX8_digest_355 : decode cX8_digest 355 = .ok (.aload_n 0, 1) := by decide +kernel
theorem dX8_digest_356 : decode cX8_digest 356 = .ok (.iload_n 3, 1) := by decide +kernel
theorem dX8_digest_357 : decode cX8_digest 357 = .ok (.invokevirtual 319, 3) := by decide +kernel
theorem dX8_digest_360 : decode cX8_digest 360 = .ok (.i2l, 1) := by decide +kernel
theorem dX8_digest_361 : decode cX8_digest 361 = .ok (.ladd, 1) := by decide +kernel
theorem dX8_digest_362 : decode cX8_digest 362 = .ok (.lstore_n 1, 1) := by decide +kernel
theorem dX8_digest_363 : decode cX8_digest 363 = .ok (.ldc2_w 289, 3) := by decide +kernel
theorem dX8_digest_366 : decode cX8_digest 366 = .ok (.lload_n 1, 1) := by decide +kernel
theorem dX8_digest_367 : decode cX8_digest 367 = .ok (.lmul, 1) := by decide +kernel
theorem dX8_digest_368 : decode cX8_digest 368 = .ok (.aload_n 0, 1) := by decide +kernel
theorem dX8_digest_369 : decode cX8_digest 369 = .ok (.iload_n 3, 1) := by decide +kernel
theorem dX8_digest_370 : decode cX8_digest 370 = .ok (.iconst 0, 1) := by decide +kernel
theorem dX8_digest_371 : decode cX8_digest 371 = .ok (.invokevirtual 322, 3) := by decide +kernel
theorem dX8_digest_374 : decode cX8_digest 374 = .ok (.i2l, 1) := by decide +kernel
theorem dX8_digest_375 : decode cX8_digest 375 = .ok (.ladd, 1) := by decide +kernel
theorem dX8_digest_376 : decode cX8_digest 376 = .ok (.lstore_n 1, 1) := by decide +kernel
theorem dX8_digest_377 : decode cX8_digest 377 = .ok (.ldc2_w 289, 3) := by decide +kernel
theorem dX8_digest_380 : decode cX8_digest 380 = .ok (.lload_n 1, 1) := by decide +kernel
theorem dX8_digest_381 : decode cX8_digest 381 = .ok (.lmul, 1) := by decide +kernel
theorem dX8_digest_382 : decode cX8_digest 382 = .ok (.aload_n 0, 1) := by decide +kernel
theorem dX8_digest_383 : decode cX8_digest 383 = .ok (.iload_n 3, 1) := by decide +kernel
theorem dX8_digest_384 : decode cX8_digest 384 = .ok (.iconst 1, 1) := by decide +kernel
theorem dX8_digest_385 : decode cX8_digest 385 = .ok (.invokevirtual 322, 3) := by decide +kernel
theorem dX8_digest_388 : decode cX8_digest 388 = .ok (.i2l, 1) := by decide +kernel
theorem dX8_digest_389 : decode cX8_digest 389 = .ok (.ladd, 1) := by decide +kernel
theorem dX8_digest_390 : decode cX8_digest 390 = .ok (.lstore_n 1, 1) := by decide +kernel
theorem dX8_digest_391 : decode cX8_digest 391 = .ok (.ldc2_w 289, 3) := by decide +kernel
theorem dX8_digest_394 : decode cX8_digest 394 = .ok (.lload_n 1, 1) := by decide +kernel
theorem dX8_digest_395 : decode cX8_digest 395 = .ok (.lmul, 1) := by decide +kernel
theorem dX8_digest_396 : decode cX8_digest 396 = .ok (.aload_n 0, 1) := by decide +kernel
theorem dX8_digest_397 : decode cX8_digest 397 = .ok (.iload_n 3, 1) := by decide +kernel
theorem dX8_digest_398 : decode cX8_digest 398 = .ok (.iconst 0, 1) := by decide +kernel
theorem dX8_digest_399 : decode cX8_digest 399 = .ok (.invokevirtual 325, 3) := by decide +kernel
theorem dX8_digest_402 : decode cX8_digest 402 = .ok (.i2l, 1) := by decide +kernel
theorem dX8_digest_403 : decode cX8_digest 403 = .ok (.ladd, 1) := by decide +kernel
theorem dX8_digest_404 : decode cX8_digest 404 = .ok (.lstore_n 1, 1) := by decide +kernel
theorem dX8_digest_405 : decode cX8_digest 405 = .ok (.ldc2_w 289, 3) := by decide +kernel
theorem dX8_digest_408 : decode cX8_digest 408 = .ok (.lload_n 1, 1) := by decide +kernel
theorem dX8_digest_409 : decode cX8_digest 409 = .ok (.lmul, 1) := by decide +kernel
theorem dX8_digest_410 : decode cX8_digest 410 = .ok (.aload_n 0, 1) := by decide +kernel
theorem dX8_digest_411 : decode cX8_digest 411 = .ok (.iload_n 3, 1) := by decide +kernel
theorem dX8_digest_412 : decode cX8_digest 412 = .ok (.iconst 1, 1) := by decide +kernel
theorem dX8_digest_413 : decode cX8_digest 413 = .ok (.invokevirtual 325, 3) := by decide +kernel
theorem dX8_digest_416 : decode cX8_digest 416 = .ok (.i2l, 1) := by decide +kernel
theorem dX8_digest_417 : decode cX8_digest 417 = .ok (.ladd, 1) := by decide +kernel
theorem dX8_digest_418 : decode cX8_digest 418 = .ok (.lstore_n 1, 1) := by decide +kernel
theorem dX8_digest_419 : decode cX8_digest 419 = .ok (.ldc2_w 289, 3) := by decide +kernel
theorem dX8_digest_422 : decode cX8_digest 422 = .ok (.lload_n 1, 1) := by decide +kernel
theorem dX8_digest_423 : decode cX8_digest 423 = .ok (.lmul, 1) := by decide +kernel
theorem dX8_digest_424 : decode cX8_digest 424 = .ok (.aload_n 0, 1) := by decide +kernel
theorem dX8_digest_425 : decode cX8_digest 425 = .ok (.iload_n 3, 1) := by decide +kernel
theorem dX8_digest_426 : decode cX8_digest 426 = .ok (.invokevirtual 328, 3) := by decide +kernel
theorem dX8_digest_429 : decode cX8_digest 429 = .ok (.i2l, 1) := by decide +kernel
theorem dX8_digest_430 : decode cX8_digest 430 = .ok (.ladd, 1) := by decide +kernel
theorem dX8_digest_431 : decode cX8_digest 431 = .ok (.lstore_n 1, 1) := by decide +kernel
theorem dX8_digest_432 : decode cX8_digest 432 = .ok (.iinc 3 1, 3) := by decide +kernel
theorem dX8_digest_435 : decode cX8_digest 435 = .ok (.goto (-137), 3) := by decide +kernel
theorem dX8_digest_438 : decode cX8_digest 438 = .ok (.ldc2_w 289, 3) := by decide +kernel
theorem dX8_digest_441 : decode cX8_digest 441 = .ok (.lload_n 1, 1) := by decide +kernel
theorem dX8_digest_442 : decode cX8_digest 442 = .ok (.lmul, 1) := by decide +kernel
theorem dX8_digest_443 : decode cX8_digest 443 = .ok (.aload_n 0, 1) := by decide +kernel
theorem dX8_digest_444 : decode cX8_digest 444 = .ok (.iconst 0, 1) := by decide +kernel
theorem dX8_digest_445 : decode cX8_digest 445 = .ok (.invokevirtual 331, 3) := by decide +kernel
theorem dX8_digest_448 : decode cX8_digest 448 = .ok (.i2l, 1) := by decide +kernel
theorem dX8_digest_449 : decode cX8_digest 449 = .ok (.ladd, 1) := by decide +kernel
theorem dX8_digest_450 : decode cX8_digest 450 = .ok (.lstore_n 1, 1) := by decide +kernel
theorem dX8_digest_451 : decode cX8_digest 451 = .ok (.ldc2_w 289, 3) := by decide +kernel
theorem dX8_digest_454 : decode cX8_digest 454 = .ok (.lload_n 1, 1) := by decide +kernel
theorem dX8_digest_455 : decode cX8_digest 455 = .ok (.lmul, 1) := by decide +kernel
theorem dX8_digest_456 : decode cX8_digest 456 = .ok (.aload_n 0, 1) := by decide +kernel
theorem dX8_digest_457 : decode cX8_digest 457 = .ok (.iconst 1, 1) := by decide +kernel
theorem dX8_digest_458 : decode cX8_digest 458 = .ok (.invokevirtual 331, 3) := by decide +kernel
theorem dX8_digest_461 : decode cX8_digest 461 = .ok (.i2l, 1) := by decide +kernel
theorem dX8_digest_462 : decode cX8_digest 462 = .ok (.ladd, 1) := by decide +kernel
theorem dX8_digest_463 : decode cX8_digest 463 = .ok (.lstore_n 1, 1) := by decide +kernel
theorem dX8_digest_464 : decode cX8_digest 464 = .ok (.ldc2_w 289, 3) := by decide +kernel
theorem dX8_digest_467 : decode cX8_digest 467 = .ok (.lload_n 1, 1) := by decide +kernel
theorem dX8_digest_468 : decode cX8_digest 468 = .ok (.lmul, 1) := by decide +kernel
theorem dX8_digest_469 : decode cX8_digest 469 = .ok (.aload_n 0, 1) := by decide +kernel
theorem dX8_digest_470 : decode cX8_digest 470 = .ok (.invokevirtual 334, 3) := by decide +kernel
theorem dX8_digest_473 : decode cX8_digest 473 = .ok (.i2l, 1) := by decide +kernel
theorem dX8_digest_474 : decode cX8_digest 474 = .ok (.ladd, 1) := by decide +kernel
theorem dX8_digest_475 : decode cX8_digest 475 = .ok (.lstore_n 1, 1) := by decide +kernel
theorem dX8_digest_476 : decode cX8_digest 476 = .ok (.ldc2_w 289, 3) := by decide +kernel
theorem dX8_digest_479 : decode cX8_digest 479 = .ok (.lload_n 1, 1) := by decide +kernel
theorem dX8_digest_480 : decode cX8_digest 480 = .ok (.lmul, 1) := by decide +kernel
theorem dX8_digest_481 : decode cX8_digest 481 = .ok (.aload_n 0, 1) := by decide +kernel
theorem dX8_digest_482 : decode cX8_digest 482 = .ok (.iconst 5, 1) := by decide +kernel
theorem dX8_digest_483 : decode cX8_digest 483 = .ok (.iconst 0, 1) := by decide +kernel
theorem dX8_digest_484 : decode cX8_digest 484 = .ok (.invokevirtual 337, 3) := by decide +kernel
theorem dX8_digest_487 : decode cX8_digest 487 = .ok (.i2l, 1) := by decide +kernel
theorem dX8_digest_488 : decode cX8_digest 488 = .ok (.ladd, 1) := by decide +kernel
theorem dX8_digest_489 : decode cX8_digest 489 = .ok (.lstore_n 1, 1) := by decide +kernel
theorem dX8_digest_490 : decode cX8_digest 490 = .ok (.ldc2_w 289, 3) := by decide +kernel
theorem dX8_digest_493 : decode cX8_digest 493 = .ok (.lload_n 1, 1) := by decide +kernel
theorem dX8_digest_494 : decode cX8_digest 494 = .ok (.lmul, 1) := by decide +kernel
theorem dX8_digest_495 : decode cX8_digest 495 = .ok (.aload_n 0, 1) := by decide +kernel
theorem dX8_digest_496 : decode cX8_digest 496 = .ok (.iconst 5, 1) := by decide +kernel
theorem dX8_digest_497 : decode cX8_digest 497 = .ok (.iconst 1, 1) := by decide +kernel
theorem dX8_digest_498 : decode cX8_digest 498 = .ok (.invokevirtual 337, 3) := by decide +kernel
theorem dX8_digest_501 : decode cX8_digest 501 = .ok (.i2l, 1) := by decide +kernel
theorem dX8_digest_502 : decode cX8_digest 502 = .ok (.ladd, 1) := by decide +kernel
theorem dX8_digest_503 : decode cX8_digest 503 = .ok (.lstore_n 1, 1) := by decide +kernel
theorem dX8_digest_504 : decode cX8_digest 504 = .ok (.ldc2_w 289, 3) := by decide +kernel
theorem dX8_digest_507 : decode cX8_digest 507 = .ok (.lload_n 1, 1) := by decide +kernel
theorem dX8_digest_508 : decode cX8_digest 508 = .ok (.lmul, 1) := by decide +kernel
theorem dX8_digest_509 : decode cX8_digest 509 = .ok (.aload_n 0, 1) := by decide +kernel
theorem dX8_digest_510 : decode cX8_digest 510 = .ok (.iconst 5, 1) := by decide +kernel
theorem dX8_digest_511 : decode cX8_digest 511 = .ok (.iconst 2, 1) := by decide +kernel
theorem dX8_digest_512 : decode cX8_digest 512 = .ok (.invokevirtual 337, 3) := by decide +kernel
theorem dX8_digest_515 : decode cX8_digest 515 = .ok (.i2l, 1) := by decide +kernel
theorem dX8_digest_516 : decode cX8_digest 516 = .ok (.ladd, 1) := by decide +kernel
theorem dX8_digest_517 : decode cX8_digest 517 = .ok (.lstore_n 1, 1) := by decide +kernel
theorem dX8_digest_518 : decode cX8_digest 518 = .ok (.ldc2_w 289, 3) := by decide +kernel
theorem dX8_digest_521 : decode cX8_digest 521 = .ok (.lload_n 1, 1) := by decide +kernel
theorem dX8_digest_522 : decode cX8_digest 522 = .ok (.lmul, 1) := by decide +kernel
theorem dX8_digest_523 : decode cX8_digest 523 = .ok (.aload_n 0, 1) := by decide +kernel
theorem dX8_digest_524 : decode cX8_digest 524 = .ok (.invokevirtual 340, 3) := by decide +kernel
theorem dX8_digest_527 : decode cX8_digest 527 = .ok (.i2l, 1) := by decide +kernel
theorem dX8_digest_528 : decode cX8_digest 528 = .ok (.ladd, 1) := by decide +kernel
theorem dX8_digest_529 : decode cX8_digest 529 = .ok (.lstore_n 1, 1) := by decide +kernel
theorem dX8_digest_530 : decode cX8_digest 530 = .ok (.ldc2_w 289, 3) := by decide +kernel
theorem dX8_digest_533 : decode cX8_digest 533 = .ok (.lload_n 1, 1) := by decide +kernel
theorem dX8_digest_534 : decode cX8_digest 534 = .ok (.lmul, 1) := by decide +kernel
theorem dX8_digest_535 : decode cX8_digest 535 = .ok (.aload_n 0, 1) := by decide +kernel
theorem dX8_digest_536 : decode cX8_digest 536 = .ok (.iconst 5, 1) := by decide +kernel
theorem dX8_digest_537 : decode cX8_digest 537 = .ok (.iconst 0, 1) := by decide +kernel
theorem dX8_digest_538 : decode cX8_digest 538 = .ok (.invokevirtual 343, 3) := by decide +kernel
theorem dX8_digest_541 : decode cX8_digest 541 = .ok (.ladd, 1) := by decide +kernel
theorem dX8_digest_542 : decode cX8_digest 542 = .ok (.lstore_n 1, 1) := by decide +kernel
theorem dX8_digest_543 : decode cX8_digest 543 = .ok (.ldc2_w 289, 3) := by decide +kernel
theorem dX8_digest_546 : decode cX8_digest 546 = .ok (.lload_n 1, 1) := by decide +kernel
theorem dX8_digest_547 : decode cX8_digest 547 = .ok (.lmul, 1) := by decide +kernel
theorem dX8_digest_548 : decode cX8_digest 548 = .ok (.aload_n 0, 1) := by decide +kernel
theorem dX8_digest_549 : decode cX8_digest 549 = .ok (.iconst 5, 1) := by decide +kernel
theorem dX8_digest_550 : decode cX8_digest 550 = .ok (.iconst 1, 1) := by decide +kernel
theorem dX8_digest_551 : decode cX8_digest 551 = .ok (.invokevirtual 343, 3) := by decide +kernel
theorem dX8_digest_554 : decode cX8_digest 554 = .ok (.ladd, 1) := by decide +kernel
theorem dX8_digest_555 : decode cX8_digest 555 = .ok (.lstore_n 1, 1) := by decide +kernel
theorem dX8_digest_556 : decode cX8_digest 556 = .ok (.ldc2_w 289, 3) := by decide +kernel
theorem dX8_digest_559 : decode cX8_digest 559 = .ok (.lload_n 1, 1) := by decide +kernel
theorem dX8_digest_560 : decode cX8_digest 560 = .ok (.lmul, 1) := by decide +kernel
theorem dX8_digest_561 : decode cX8_digest 561 = .ok (.aload_n 0, 1) := by decide +kernel
theorem dX8_digest_562 : decode cX8_digest 562 = .ok (.bipush 7, 2) := by decide +kernel
theorem dX8_digest_564 : decode cX8_digest 564 = .ok (.iconst 5, 1) := by decide +kernel
theorem dX8_digest_565 : decode cX8_digest 565 = .ok (.iconst 0, 1) := by decide +kernel
theorem dX8_digest_566 : decode cX8_digest 566 = .ok (.invokevirtual 346, 3) := by decide +kernel
theorem dX8_digest_569 : decode cX8_digest 569 = .ok (.i2l, 1) := by decide +kernel
theorem dX8_digest_570 : decode cX8_digest 570 = .ok (.ladd, 1) := by decide +kernel
theorem dX8_digest_571 : decode cX8_digest 571 = .ok (.lstore_n 1, 1) := by decide +kernel
theorem dX8_digest_572 : decode cX8_digest 572 = .ok (.ldc2_w 289, 3) := by decide +kernel
theorem dX8_digest_575 : decode cX8_digest 575 = .ok (.lload_n 1, 1) := by decide +kernel
theorem dX8_digest_576 : decode cX8_digest 576 = .ok (.lmul, 1) := by decide +kernel
theorem dX8_digest_577 : decode cX8_digest 577 = .ok (.aload_n 0, 1) := by decide +kernel
theorem dX8_digest_578 : decode cX8_digest 578 = .ok (.bipush 7, 2) := by decide +kernel
theorem dX8_digest_580 : decode cX8_digest 580 = .ok (.iconst 5, 1) := by decide +kernel
theorem dX8_digest_581 : decode cX8_digest 581 = .ok (.iconst 1, 1) := by decide +kernel
theorem dX8_digest_582 : decode cX8_digest 582 = .ok (.invokevirtual 346, 3) := by decide +kernel
theorem dX8_digest_585 : decode cX8_digest 585 = .ok (.i2l, 1) := by decide +kernel
theorem dX8_digest_586 : decode cX8_digest 586 = .ok (.ladd, 1) := by decide +kernel
theorem dX8_digest_587 : decode cX8_digest 587 = .ok (.lstore_n 1, 1) := by decide +kernel
theorem dX8_digest_588 : decode cX8_digest 588 = .ok (.lload_n 1, 1) := by decide +kernel
theorem dX8_digest_589 : decode cX8_digest 589 = .ok (.lreturn, 1) := by decide +kernel
theorem dX8_textOf_0 : decode cX8_textOf 0 = .ok (.iload_n 1, 1) := by decide +kernel
theorem dX8_textOf_1 : decode cX8_textOf 1 = .ok (.ifCond .ne 10, 3) := by decide +kernel
theorem dX8_textOf_4 : decode cX8_textOf 4 = .ok (.aload_n 0, 1) := by decide +kernel
theorem dX8_textOf_5 : decode cX8_textOf 5 = .ok (.getfield 14, 3) := by decide +kernel
theorem dX8_textOf_8 : decode cX8_textOf 8 = .ok (.goto 7, 3) := by decide +kernel
theorem dX8_textOf_11 : decode cX8_textOf 11 = .ok (.aload_n 0, 1) := by decide +kernel
theorem dX8_textOf_12 : decode cX8_textOf 12 = .ok (.getfield 18, 3) := by decide +kernel
theorem dX8_textOf_15 : decode cX8_textOf 15 = .ok (.areturn, 1) := by decide +kernel
theorem dX8_retell_0 : decode cX8_retell 0 = .ok (.iload_n 1, 1) := by decide +kernel
theorem dX8_retell_1 : decode cX8_retell 1 = .ok (.ifCond .ne 17, 3) := by decide +kernel
theorem dX8_retell_4 : decode cX8_retell 4 = .ok (.aload_n 0, 1) := by decide +kernel
theorem dX8_retell_5 : decode cX8_retell 5 = .ok (.getfield 24, 3) := by decide +kernel
theorem dX8_retell_8 : decode cX8_retell 8 = .ok (.aload_n 0, 1) := by decide +kernel
theorem dX8_retell_9 : decode cX8_retell 9 = .ok (.getfield 14, 3) := by decide +kernel
theorem dX8_retell_12 : decode cX8_retell 12 = .ok (.invokevirtual 349, 3) := by decide +kernel
theorem dX8_retell_15 : decode cX8_retell 15 = .ok (.goto 14, 3) := by decide +kernel
theorem dX8_retell_18 : decode cX8_retell 18 = .ok (.aload_n 0, 1) := by decide +kernel
theorem dX8_retell_19 : decode cX8_retell 19 = .ok (.getfield 31, 3) := by decide +kernel
theorem dX8_retell_22 : decode cX8_retell 22 = .ok (.aload_n 0, 1) := by decide +kernel
theorem dX8_retell_23 : decode cX8_retell 23 = .ok (.getfield 18, 3) := by decide +kernel
theorem dX8_retell_26 : decode cX8_retell 26 = .ok (.invokevirtual 353, 3) := by decide +kernel
theorem dX8_retell_29 : decode cX8_retell 29 = .ok (.aload_n 0, 1) := by decide +kernel
theorem dX8_retell_30 : decode cX8_retell 30 = .ok (.iconst 1, 1) := by decide +kernel
theorem dX8_retell_31 : decode cX8_retell 31 = .ok (.putfield 81, 3) := by decide +kernel
theorem dX8_retell_34 : decode cX8_retell 34 = .ok (.return_, 1) := by decide +kernel
theorem dX8_asTold_0 : decode cX8_asTold 0 = .ok (.aload_n 0, 1) := by decide +kernel
theorem dX8_asTold_1 : decode cX8_asTold 1 = .ok (.getfield 81, 3) := by decide +kernel
theorem dX8_asTold_4 : decode cX8_asTold 4 = .ok (.ifCond .eq 20, 3) := by decide +kernel
theorem dX8_asTold_7 : decode cX8_asTold 7 = .ok (.aload_n 0, 1) := by decide +kernel
theorem dX8_asTold_8 : decode cX8_asTold 8 = .ok (.getfield 70, 3) := by decide +kernel
theorem dX8_asTold_11 : decode cX8_asTold 11 = .ok (.aload_n 0, 1) := by decide +kernel
theorem dX8_asTold_12 : decode cX8_asTold 12 = .ok (.getfield 38, 3) := by decide +kernel
theorem dX8_asTold_15 : decode cX8_asTold 15 = .ok (.iconst 0, 1) := by decide +kernel
theorem dX8_asTold_16 : decode cX8_asTold 16 = .ok (.invokevirtual 205, 3) := by decide +kernel
theorem dX8_asTold_19 : decode cX8_asTold 19 = .ok (.aload_n 0, 1) := by decide +kernel
theorem dX8_asTold_20 : decode cX8_asTold 20 = .ok (.iconst 0, 1) := by decide +kernel
theorem dX8_asTold_21 : decode cX8_asTold 21 = .ok (.putfield 81, 3) := by decide +kernel
theorem dX8_asTold_24 : decode cX8_asTold 24 = .ok (.aload_n 0, 1) := by decide +kernel
theorem dX8_asTold_25 : decode cX8_asTold 25 = .ok (.getfield 70, 3) := by decide +kernel
theorem dX8_asTold_28 : decode cX8_asTold 28 = .ok (.areturn, 1) := by decide +kernel
theorem dX8_found_0 : decode cX8_found 0 = .ok (.aload_n 0, 1) := by decide +kernel
theorem dX8_found_1 : decode cX8_found 1 = .ok (.iload_n 1, 1) := by decide +kernel
theorem dX8_found_2 : decode cX8_found 2 = .ok (.putfield 85, 3) := by decide +kernel
theorem dX8_found_5 : decode cX8_found 5 = .ok (.bipush (-10), 2) := by decide +kernel
theorem dX8_found_7 : decode cX8_found 7 = .ok (.iload_n 1, 1) := by decide +kernel
theorem dX8_found_8 : decode cX8_found 8 = .ok (.isub, 1) := by decide +kernel
theorem dX8_found_9 : decode cX8_found 9 = .ok (.ireturn, 1) := by decide +kernel
theorem dX8_mostAlike_0 : decode cX8_mostAlike 0 = .ok (.iconst 0, 1) := by decide +kernel
theorem dX8_mostAlike_1 : decode cX8_mostAlike 1 = .ok (.istore_n 3, 1) := by decide +kernel
theorem dX8_mostAlike_2 : decode cX8_mostAlike 2 = .ok (.iconst 0, 1) := by decide +kernel
theorem dX8_mostAlike_3 : decode cX8_mostAlike 3 = .ok (.istore 4, 2) := by decide +kernel
theorem dX8_mostAlike_5 : decode cX8_mostAlike 5 = .ok (.iload 4, 2) := by decide +kernel
theorem dX8_mostAlike_7 : decode cX8_mostAlike 7 = .ok (.iload_n 1, 1) := by decide +kernel
theorem dX8_mostAlike_8 : decode cX8_mostAlike 8 = .ok (.if_icmp .ge 64, 3) := by decide +kernel
theorem dX8_mostAlike_11 : decode cX8_mostAlike 11 = .ok (.iconst 0, 1) := by decide +kernel
theorem dX8_mostAlike_12 : decode cX8_mostAlike 12 = .ok (.istore 5, 2) := by decide +kernel
theorem dX8_mostAlike_14 : decode cX8_mostAlike 14 = .ok (.iconst 0, 1) := by decide +kernel
theorem dX8_mostAlike_15 : decode cX8_mostAlike 15 = .ok (.istore 6, 2) := by decide +kernel
theorem dX8_mostAlike_17 : decode cX8_mostAlike 17 = .ok (.iload 6, 2) := by decide +kernel
theorem dX8_mostAlike_19 : decode cX8_mostAlike 19 = .ok (.iload_n 1, 1) := by decide +kernel
theorem dX8_mostAlike_20 : decode cX8_mostAlike 20 = .ok (.if_icmp .ge 39, 3) := by decide +kernel
theorem dX8_mostAlike_23 : decode cX8_mostAlike 23 = .ok (.aload_n 0, 1) := by decide +kernel
theorem dX8_mostAlike_24 : decode cX8_mostAlike 24 = .ok (.getfield 77, 3) := by decide +kernel
theorem dX8_mostAlike_27 : decode cX8_mostAlike 27 = .ok (.iload 4, 2) := by decide +kernel
theorem dX8_mostAlike_29 : decode cX8_mostAlike 29 = .ok (.bipush 20, 2) := by decide +kernel
theorem dX8_mostAlike_31 : decode cX8_mostAlike 31 = .ok (.imul, 1) := by decide +kernel
theorem dX8_mostAlike_32 : decode cX8_mostAlike 32 = .ok (.iload_n 2, 1) := by decide +kernel
theorem dX8_mostAlike_33 : decode cX8_mostAlike 33 = .ok (.iadd, 1) := by decide +kernel
theorem dX8_mostAlike_34 : decode cX8_mostAlike 34 = .ok (.iaload, 1) := by decide +kernel
theorem dX8_mostAlike_35 : decode cX8_mostAlike 35 = .ok (.aload_n 0, 1) := by decide +kernel
theorem dX8_mostAlike_36 : decode cX8_mostAlike 36 = .ok (.getfield 77, 3) := by decide +kernel
theorem dX8_mostAlike_39 : decode cX8_mostAlike 39 = .ok (.iload 6, 2) := by decide +kernel
theorem dX8_mostAlike_41 : decode cX8_mostAlike 41 = .ok (.bipush 20, 2) := by decide +kernel
theorem dX8_mostAlike_43 : decode cX8_mostAlike 43 = .ok (.imul, 1) := by decide +kernel
theorem dX8_mostAlike_44 : decode cX8_mostAlike 44 = .ok (.iload_n 2, 1) := by decide +kernel
theorem dX8_mostAlike_45 : decode cX8_mostAlike 45 = .ok (.iadd, 1) := by decide +kernel
theorem dX8_mostAlike_46 : decode cX8_mostAlike 46 = .ok (.iaload, 1) := by decide +kernel
theorem dX8_mostAlike_47 : decode cX8_mostAlike 47 = .ok (.if_icmp .ne 6, 3) := by decide +kernel
theorem dX8_mostAlike_50 : decode cX8_mostAlike 50 = .ok (.iinc 5 1, 3) := by decide +kernel
theorem dX8_mostAlike_53 : decode cX8_mostAlike 53 = .ok (.iinc 6 1, 3) := by decide +kernel
theorem dX8_mostAlike_56 : decode cX8_mostAlike 56 = .ok (.goto (-39), 3) := by decide +kernel
theorem dX8_mostAlike_59 : decode cX8_mostAlike 59 = .ok (.iload_n 3, 1) := by decide +kernel
theorem dX8_mostAlike_60 : decode cX8_mostAlike 60 = .ok (.iload 5, 2) := by decide +kernel
theorem dX8_mostAlike_62 : decode cX8_mostAlike 62 = .ok (.invokestatic 354, 3) := by decide +kernel
theorem dX8_mostAlike_65 : decode cX8_mostAlike 65 = .ok (.istore_n 3, 1) := by decide +kernel
theorem dX8_mostAlike_66 : decode cX8_mostAlike 66 = .ok (.iinc 4 1, 3) := by decide +kernel
theorem dX8_mostAlike_69 : decode cX8_mostAlike 69 = .ok (.goto (-64), 3) := by decide +kernel
theorem dX8_mostAlike_72 : decode cX8_mostAlike 72 = .ok (.iload_n 3, 1) := by decide +kernel
theorem dX8_mostAlike_73 : decode cX8_mostAlike 73 = .ok (.ireturn, 1) := by decide +kernel
theorem dX8_waysOf_0 : decode cX8_waysOf 0 = .ok (.lconst 1, 1) := by decide +kernel
theorem dX8_waysOf_1 : decode cX8_waysOf 1 = .ok (.lstore_n 3, 1) := by decide +kernel
theorem dX8_waysOf_2 : decode cX8_waysOf 2 = .ok (.iconst 0, 1) := by decide +kernel
theorem dX8_waysOf_3 : decode cX8_waysOf 3 = .ok (.istore 5, 2) := by decide +kernel
theorem dX8_waysOf_5 : decode cX8_waysOf 5 = .ok (.iload 5, 2) := by decide +kernel
theorem dX8_waysOf_7 : decode cX8_waysOf 7 = .ok (.aload_n 0, 1) := by decide +kernel
theorem dX8_waysOf_8 : decode cX8_waysOf 8 = .ok (.getfield 38, 3) := by decide +kernel
theorem dX8_waysOf_11 : decode cX8_waysOf 11 = .ok (.getfield 142, 3) := by decide +kernel
theorem dX8_waysOf_14 : decode cX8_waysOf 14 = .ok (.if_icmp .ge 31, 3) := by decide +kernel
theorem dX8_waysOf_17 : decode cX8_waysOf 17 = .ok (.lload_n 3, 1) := by decide +kernel
theorem dX8_waysOf_18 : decode cX8_waysOf 18 = .ok (.iload_n 1, 1) := by decide +kernel
theorem dX8_waysOf_19 : decode cX8_waysOf 19 = .ok (.iload 5, 2) := by decide +kernel
theorem dX8_waysOf_21 : decode cX8_waysOf 21 = .ok (.iushr, 1) := by decide +kernel
theorem dX8_waysOf_22 : decode cX8_waysOf 22 = .ok (.iconst 1, 1) := by decide +kernel
theorem dX8_waysOf_23 : decode cX8_waysOf 23 = .ok (.iand, 1) := by decide +kernel
theorem dX8_waysOf_24 : decode cX8_waysOf 24 = .ok (.ifCond .ne 8, 3) := by decide +kernel
theorem dX8_waysOf_27 : decode cX8_waysOf 27 = .ok (.iload_n 2, 1) := by decide +kernel
theorem dX8_waysOf_28 : decode cX8_waysOf 28 = .ok (.i2l, 1) := by decide +kernel
theorem dX8_waysOf_29 : decode cX8_waysOf 29 = .ok (.goto 8, 3) := by decide +kernel
theorem dX8_waysOf_32 : decode cX8_waysOf 32 = .ok (.bipush 16, 2) := by decide +kernel
theorem dX8_waysOf_34 : decode cX8_waysOf 34 = .ok (.iload_n 2, 1) := by decide +kernel
theorem dX8_waysOf_35 : decode cX8_waysOf 35 = .ok (.isub, 1) := by decide +kernel
theorem dX8_waysOf_36 : decode cX8_waysOf 36 = .ok (.i2l, 1) := by decide +kernel
theorem dX8_waysOf_37 : decode cX8_waysOf 37 = .ok (.lmul, 1) := by decide +kernel
theorem dX8_waysOf_38 : decode cX8_waysOf 38 = .ok (.lstore_n 3, 1) := by decide +kernel
theorem dX8_waysOf_39 : decode cX8_waysOf 39 = .ok (.iinc 5 1, 3) := by decide +kernel
theorem dX8_waysOf_42 : decode cX8_waysOf 42 = .ok (.goto (-37), 3) := by decide +kernel
theorem dX8_waysOf_45 : decode cX8_waysOf 45 = .ok (.lload_n 3, 1) := by decide +kernel
theorem dX8_waysOf_46 : decode cX8_waysOf 46 = .ok (.lreturn, 1) := by decide +kernel
theorem dX8_nextSeed_0 : decode cX8_nextSeed 0 = .ok (.ldc_w 357, 3) := by decide +kernel
theorem dX8_nextSeed_3 : decode cX8_nextSeed 3 = .ok (.iload_n 0, 1) := by decide +kernel
theorem dX8_nextSeed_4 : decode cX8_nextSeed 4 = .ok (.imul, 1) := by decide +kernel
theorem dX8_nextSeed_5 : decode cX8_nextSeed 5 = .ok (.sipush 12345, 3) := by decide +kernel
theorem dX8_nextSeed_8 : decode cX8_nextSeed 8 = .ok (.iadd, 1) := by decide +kernel
theorem dX8_nextSeed_9 : decode cX8_nextSeed 9 = .ok (.ireturn, 1) := by decide +kernel
theorem dX8_within_0 : decode cX8_within 0 = .ok (.iload_n 0, 1) := by decide +kernel
theorem dX8_within_1 : decode cX8_within 1 = .ok (.iload_n 1, 1) := by decide +kernel
theorem dX8_within_2 : decode cX8_within 2 = .ok (.if_icmp .lt 12, 3) := by decide +kernel
theorem dX8_within_5 : decode cX8_within 5 = .ok (.iload_n 0, 1) := by decide +kernel
theorem dX8_within_6 : decode cX8_within 6 = .ok (.iload_n 2, 1) := by decide +kernel
theorem dX8_within_7 : decode cX8_within 7 = .ok (.if_icmp .gt 7, 3) := by decide +kernel
theorem dX8_within_10 : decode cX8_within 10 = .ok (.iconst 1, 1) := by decide +kernel
theorem dX8_within_11 : decode cX8_within 11 = .ok (.goto 4, 3) := by decide +kernel
theorem dX8_within_14 : decode cX8_within 14 = .ok (.iconst 0, 1) := by decide +kernel
theorem dX8_within_15 : decode cX8_within 15 = .ok (.ireturn, 1) := by decide +kernel
theorem dX8_isEither_0 : decode cX8_isEither 0 = .ok (.iload_n 0, 1) := by decide +kernel
theorem dX8_isEither_1 : decode cX8_isEither 1 = .ok (.ifCond .eq 8, 3) := by decide +kernel
theorem dX8_isEither_4 : decode cX8_isEither 4 = .ok (.iload_n 0, 1) := by decide +kernel
theorem dX8_isEither_5 : decode cX8_isEither 5 = .ok (.iconst 1, 1) := by decide +kernel
theorem dX8_isEither_6 : decode cX8_isEither 6 = .ok (.if_icmp .ne 7, 3) := by decide +kernel
theorem dX8_isEither_9 : decode cX8_isEither 9 = .ok (.iconst 1, 1) := by decide +kernel
theorem dX8_isEither_10 : decode cX8_isEither 10 = .ok (.goto 4, 3) := by decide +kernel
theorem dX8_isEither_13 : decode cX8_isEither 13 = .ok (.iconst 0, 1) := by decide +kernel
theorem dX8_isEither_14 : decode cX8_isEither 14 = .ok (.ireturn, 1) := by decide +kernel
theorem dX8_isYear_0 : decode cX8_isYear 0 = .ok (.iload_n 0, 1) := by decide +kernel
theorem dX8_isYear_1 : decode cX8_isYear 1 = .ok (.iconst 0, 1) := by decide +kernel
theorem dX8_isYear_2 : decode cX8_isYear 2 = .ok (.bipush 19, 2) := by decide +kernel
theorem dX8_isYear_4 : decode cX8_isYear 4 = .ok (.invokestatic 94, 3) := by decide +kernel
theorem dX8_isYear_7 : decode cX8_isYear 7 = .ok (.ireturn, 1) := by decide +kernel
theorem dX8_isPlace_0 : decode cX8_isPlace 0 = .ok (.iload_n 0, 1) := by decide +kernel
theorem dX8_isPlace_1 : decode cX8_isPlace 1 = .ok (.iconst 0, 1) := by decide +kernel
theorem dX8_isPlace_2 : decode cX8_isPlace 2 = .ok (.iconst 4, 1) := by decide +kernel
theorem dX8_isPlace_3 : decode cX8_isPlace 3 = .ok (.invokestatic 94, 3) := by decide +kernel
theorem dX8_isPlace_6 : decode cX8_isPlace 6 = .ok (.ifCond .eq 17, 3) := by decide +kernel
theorem dX8_isPlace_9 : decode cX8_isPlace 9 = .ok (.iload_n 1, 1) := by decide +kernel
theorem dX8_isPlace_10 : decode cX8_isPlace 10 = .ok (.iconst 0, 1) := by decide +kernel
theorem dX8_isPlace_11 : decode cX8_isPlace 11 = .ok (.bipush 7, 2) := by decide +kernel
theorem dX8_isPlace_13 : decode cX8_isPlace 13 = .ok (.invokestatic 94, 3) := by decide +kernel
theorem dX8_isPlace_16 : decode cX8_isPlace 16 = .ok (.ifCond .eq 7, 3) := by decide +kernel
theorem dX8_isPlace_19 : decode cX8_isPlace 19 = .ok (.iconst 1, 1) := by decide +kernel
theorem dX8_isPlace_20 : decode cX8_isPlace 20 = .ok (.goto 4, 3) := by decide +kernel
theorem dX8_isPlace_23 : decode cX8_isPlace 23 = .ok (.iconst 0, 1) := by decide +kernel
theorem dX8_isPlace_24 : decode cX8_isPlace 24 = .ok (.ireturn, 1) := by decide +kernel
theorem dX8_isSheet_0 : decode cX8_isSheet 0 = .ok (.iload_n 0, 1) := by decide +kernel
theorem dX8_isSheet_1 : decode cX8_isSheet 1 = .ok (.iconst 0, 1) := by decide +kernel
theorem dX8_isSheet_2 : decode cX8_isSheet 2 = .ok (.iconst 3, 1) := by decide +kernel
theorem dX8_isSheet_3 : decode cX8_isSheet 3 = .ok (.invokestatic 94, 3) := by decide +kernel
theorem dX8_isSheet_6 : decode cX8_isSheet 6 = .ok (.ireturn, 1) := by decide +kernel
theorem dX8_isForm_0 : decode cX8_isForm 0 = .ok (.iload_n 0, 1) := by decide +kernel
theorem dX8_isForm_1 : decode cX8_isForm 1 = .ok (.iconst 0, 1) := by decide +kernel
theorem dX8_isForm_2 : decode cX8_isForm 2 = .ok (.iconst 2, 1) := by decide +kernel
theorem dX8_isForm_3 : decode cX8_isForm 3 = .ok (.invokestatic 94, 3) := by decide +kernel
theorem dX8_isForm_6 : decode cX8_isForm 6 = .ok (.ireturn, 1) := by decide +kernel
theorem dX8_isAt_0 : decode cX8_isAt 0 = .ok (.lload_n 0, 1) := by decide +kernel
theorem dX8_isAt_1 : decode cX8_isAt 1 = .ok (.iload_n 2, 1) := by decide +kernel
theorem dX8_isAt_2 : decode cX8_isAt 2 = .ok (.lushr, 1) := by decide +kernel
theorem dX8_isAt_3 : decode cX8_isAt 3 = .ok (.lconst 1, 1) := by decide +kernel
theorem dX8_isAt_4 : decode cX8_isAt 4 = .ok (.land, 1) := by decide +kernel
theorem dX8_isAt_5 : decode cX8_isAt 5 = .ok (.lconst 0, 1) := by decide +kernel
theorem dX8_isAt_6 : decode cX8_isAt 6 = .ok (.lcmp, 1) := by decide +kernel
theorem dX8_isAt_7 : decode cX8_isAt 7 = .ok (.ifCond .eq 7, 3) := by decide +kernel
theorem dX8_isAt_10 : decode cX8_isAt 10 = .ok (.iconst 1, 1) := by decide +kernel
theorem dX8_isAt_11 : decode cX8_isAt 11 = .ok (.goto 4, 3) := by decide +kernel
theorem dX8_isAt_14 : decode cX8_isAt 14 = .ok (.iconst 0, 1) := by decide +kernel
theorem dX8_isAt_15 : decode cX8_isAt 15 = .ok (.ireturn, 1) := by decide +kernel
theorem dX8_setterAt_0 : decode cX8_setterAt 0 = .ok (.iconst 0, 1) := by decide +kernel
theorem dX8_setterAt_1 : decode cX8_setterAt 1 = .ok (.istore_n 3, 1) := by decide +kernel
theorem dX8_setterAt_2 : decode cX8_setterAt 2 = .ok (.iload_n 3, 1) := by decide +kernel
theorem dX8_setterAt_3 : decode cX8_setterAt 3 = .ok (.bipush 8, 2) := by decide +kernel
theorem dX8_setterAt_5 : decode cX8_setterAt 5 = .ok (.if_icmp .ge 23, 3) := by decide +kernel
theorem dX8_setterAt_8 : decode cX8_setterAt 8 = .ok (.aload_n 0, 1) := by decide +kernel
theorem dX8_setterAt_9 : decode cX8_setterAt 9 = .ok (.iload_n 1, 1) := by decide +kernel
theorem dX8_setterAt_10 : decode cX8_setterAt 10 = .ok (.iload_n 3, 1) := by decide +kernel
theorem dX8_setterAt_11 : decode cX8_setterAt 11 = .ok (.iadd, 1) := by decide +kernel
theorem dX8_setterAt_12 : decode cX8_setterAt 12 = .ok (.laload, 1) := by decide +kernel
theorem dX8_setterAt_13 : decode cX8_setterAt 13 = .ok (.iload_n 2, 1) := by decide +kernel
theorem dX8_setterAt_14 : decode cX8_setterAt 14 = .ok (.invokestatic 358, 3) := by decide +kernel
theorem dX8_setterAt_17 : decode cX8_setterAt 17 = .ok (.ifCond .eq 5, 3) := by decide +kernel
theorem dX8_setterAt_20 : decode cX8_setterAt 20 = .ok (.iload_n 3, 1) := by decide +kernel
theorem dX8_setterAt_21 : decode cX8_setterAt 21 = .ok (.ireturn, 1) := by decide +kernel
theorem dX8_setterAt_22 : decode cX8_setterAt 22 = .ok (.iinc 3 1, 3) := by decide +kernel
theorem dX8_setterAt_25 : decode cX8_setterAt 25 = .ok (.goto (-23), 3) := by decide +kernel
theorem dX8_setterAt_28 : decode cX8_setterAt 28 = .ok (.iconst (-1), 1) := by decide +kernel
theorem dX8_setterAt_29 : decode cX8_setterAt 29 = .ok (.ireturn, 1) := by decide +kernel
theorem dX8_union_0 : decode cX8_union 0 = .ok (.lconst 0, 1) := by decide +kernel
theorem dX8_union_1 : decode cX8_union 1 = .ok (.lstore_n 1, 1) := by decide +kernel
theorem dX8_union_2 : decode cX8_union 2 = .ok (.iconst 0, 1) := by decide +kernel
theorem dX8_union_3 : decode cX8_union 3 = .ok (.istore_n 3, 1) := by decide +kernel
theorem dX8_union_4 : decode cX8_union 4 = .ok (.iload_n 3, 1) := by decide +kernel
theorem dX8_union_5 : decode cX8_union 5 = .ok (.bipush 8, 2) := by decide +kernel
theorem dX8_union_7 : decode cX8_union 7 = .ok (.if_icmp .ge 15, 3) := by decide +kernel
theorem dX8_union_10 : decode cX8_union 10 = .ok (.lload_n 1, 1) := by decide +kernel
theorem dX8_union_11 : decode cX8_union 11 = .ok (.aload_n 0, 1) := by decide +kernel
theorem dX8_union_12 : decode cX8_union 12 = .ok (.iload_n 3, 1) := by decide +kernel
theorem dX8_union_13 : decode cX8_union 13 = .ok (.laload, 1) := by decide +kernel
theorem dX8_union_14 : decode cX8_union 14 = .ok (.lor, 1) := by decide +kernel
theorem dX8_union_15 : decode cX8_union 15 = .ok (.lstore_n 1, 1) := by decide +kernel
theorem dX8_union_16 : decode cX8_union 16 = .ok (.iinc 3 1, 3) := by decide +kernel
theorem dX8_union_19 : decode cX8_union 19 = .ok (.goto (-15), 3) := by decide +kernel
theorem dX8_union_22 : decode cX8_union 22 = .ok (.lload_n 1, 1) := by decide +kernel
theorem dX8_union_23 : decode cX8_union 23 = .ok (.lreturn, 1) := by decide +kernel
theorem dX8_borneOf_0 : decode cX8_borneOf 0 = .ok (.lload_n 0, 1) := by decide +kernel
theorem dX8_borneOf_1 : decode cX8_borneOf 1 = .ok (.ldc2_w 362, 3) := by decide +kernel
theorem dX8_borneOf_4 : decode cX8_borneOf 4 = .ok (.land, 1) := by decide +kernel
theorem dX8_borneOf_5 : decode cX8_borneOf 5 = .ok (.lstore_n 2, 1) := by decide +kernel
theorem dX8_borneOf_6 : decode cX8_borneOf 6 = .ok (.lload_n 2, 1) := by decide +kernel
theorem dX8_borneOf_7 : decode cX8_borneOf 7 = .ok (.lstore 4, 2) := by decide +kernel
theorem dX8_borneOf_9 : decode cX8_borneOf 9 = .ok (.iconst 1, 1) := by decide +kernel
theorem dX8_borneOf_10 : decode cX8_borneOf 10 = .ok (.istore 6, 2) := by decide +kernel
theorem dX8_borneOf_12 : decode cX8_borneOf 12 = .ok (.iload 6, 2) := by decide +kernel
theorem dX8_borneOf_14 : decode cX8_borneOf 14 = .ok (.iconst 5, 1) := by decide +kernel
theorem dX8_borneOf_15 : decode cX8_borneOf 15 = .ok (.if_icmp .ge 47, 3) := by decide +kernel
theorem dX8_borneOf_18 : decode cX8_borneOf 18 = .ok (.lload_n 2, 1) := by decide +kernel
theorem dX8_borneOf_19 : decode cX8_borneOf 19 = .ok (.lload_n 2, 1) := by decide +kernel
theorem dX8_borneOf_20 : decode cX8_borneOf 20 = .ok (.iconst 1, 1) := by decide +kernel
theorem dX8_borneOf_21 : decode cX8_borneOf 21 = .ok (.lshl, 1) := by decide +kernel
theorem dX8_borneOf_22 : decode cX8_borneOf 22 = .ok (.lload_n 2, 1) := by decide +kernel
theorem dX8_borneOf_23 : decode cX8_borneOf 23 = .ok (.iconst 1, 1) := by decide +kernel
theorem dX8_borneOf_24 : decode cX8_borneOf 24 = .ok (.lushr, 1) := by decide +kernel
theorem dX8_borneOf_25 : decode cX8_borneOf 25 = .ok (.land, 1) := by decide +kernel
theorem dX8_borneOf_26 : decode cX8_borneOf 26 = .ok (.lor, 1) := by decide +kernel
theorem dX8_borneOf_27 : decode cX8_borneOf 27 = .ok (.lstore 7, 2) := by decide +kernel
theorem dX8_borneOf_29 : decode cX8_borneOf 29 = .ok (.lload_n 0, 1) := by decide +kernel
theorem dX8_borneOf_30 : decode cX8_borneOf 30 = .ok (.bipush 8, 2) := by decide +kernel
theorem dX8_borneOf_32 : decode cX8_borneOf 32 = .ok (.iload 6, 2) := by decide +kernel
theorem dX8_borneOf_34 : decode cX8_borneOf 34 = .ok (.imul, 1) := by decide +kernel
theorem dX8_borneOf_35 : decode cX8_borneOf 35 = .ok (.lushr, 1) := by decide +kernel
theorem dX8_borneOf_36 : decode cX8_borneOf 36 = .ok (.ldc2_w 362, 3) := by decide +kernel
theorem dX8_borneOf_39 : decode cX8_borneOf 39 = .ok (.land, 1) := by decide +kernel
theorem dX8_borneOf_40 : decode cX8_borneOf 40 = .ok (.lload 7, 2) := by decide +kernel
theorem dX8_borneOf_42 : decode cX8_borneOf 42 = .ok (.land, 1) := by decide +kernel
theorem dX8_borneOf_43 : decode cX8_borneOf 43 = .ok (.lstore_n 2, 1) := by decide +kernel
theorem dX8_borneOf_44 : decode cX8_borneOf 44 = .ok (.lload 4, 2) := by decide +kernel
theorem dX8_borneOf_46 : decode cX8_borneOf 46 = .ok (.lload_n 2, 1) := by decide +kernel
theorem dX8_borneOf_47 : decode cX8_borneOf 47 = .ok (.bipush 8, 2) := by decide +kernel
theorem dX8_borneOf_49 : decode cX8_borneOf 49 = .ok (.iload 6, 2) := by decide +kernel
theorem dX8_borneOf_51 : decode cX8_borneOf 51 = .ok (.imul, 1) := by decide +kernel
theorem dX8_borneOf_52 : decode cX8_borneOf 52 = .ok (.lshl, 1) := by decide +kernel
theorem dX8_borneOf_53 : decode cX8_borneOf 53 = .ok (.lor, 1) := by decide +kernel
theorem dX8_borneOf_54 : decode cX8_borneOf 54 = .ok (.lstore 4, 2) := by decide +kernel
theorem dX8_borneOf_56 : decode cX8_borneOf 56 = .ok (.iinc 6 1, 3) := by decide +kernel
theorem dX8_borneOf_59 : decode cX8_borneOf 59 = .ok (.goto (-47), 3) := by decide +kernel
theorem dX8_borneOf_62 : decode cX8_borneOf 62 = .ok (.lload 4, 2) := by decide +kernel
theorem dX8_borneOf_64 : decode cX8_borneOf 64 = .ok (.lreturn, 1) := by decide +kernel
theorem dX8_besideAtLeast_0 : decode cX8_besideAtLeast 0 = .ok (.iload_n 2, 1) := by decide +kernel
theorem dX8_besideAtLeast_1 : decode cX8_besideAtLeast 1 = .ok (.ifCond .gt 7, 3) := by decide +kernel
theorem dX8_besideAtLeast_4 : decode cX8_besideAtLeast 4 = .ok (.ldc2_w 226, 3) := by decide +kernel
theorem dX8_besideAtLeast_7 : decode cX8_besideAtLeast 7 = .ok (.lreturn, 1) := by decide +kernel
theorem dX8_besideAtLeast_8 : decode cX8_besideAtLeast 8 = .ok (.lload_n 0, 1) := by decide +kernel
theorem dX8_besideAtLeast_9 : decode cX8_besideAtLeast 9 = .ok (.ldc2_w 364, 3) := by decide +kernel
theorem dX8_besideAtLeast_12 : decode cX8_besideAtLeast 12 = .ok (.land, 1) := by decide +kernel
theorem dX8_besideAtLeast_13 : decode cX8_besideAtLeast 13 = .ok (.iconst 1, 1) := by decide +kernel
theorem dX8_besideAtLeast_14 : decode cX8_besideAtLeast 14 = .ok (.lshl, 1) := by decide +kernel
theorem dX8_besideAtLeast_15 : decode cX8_besideAtLeast 15 = .ok (.lstore_n 3, 1) := by decide +kernel
theorem dX8_besideAtLeast_16 : decode cX8_besideAtLeast 16 = .ok (.lload_n 0, 1) := by decide +kernel
theorem dX8_besideAtLeast_17 : decode cX8_besideAtLeast 17 = .ok (.ldc2_w 366, 3) := by decide +kernel
theorem dX8_besideAtLeast_20 : decode cX8_besideAtLeast 20 = .ok (.land, 1) := by decide +kernel
theorem dX8_besideAtLeast_21 : decode cX8_besideAtLeast 21 = .ok (.iconst 1, 1) := by decide +kernel
theorem dX8_besideAtLeast_22 : decode cX8_besideAtLeast 22 = .ok (.lushr, 1) := by decide +kernel
theorem dX8_besideAtLeast_23 : decode cX8_besideAtLeast 23 = .ok (.lstore 5, 2) := by decide +kernel
theorem dX8_besideAtLeast_25 : decode cX8_besideAtLeast 25 = .ok (.lload_n 0, 1) := by decide +kernel
theorem dX8_besideAtLeast_26 : decode cX8_besideAtLeast 26 = .ok (.bipush 8, 2) := by decide +kernel
theorem dX8_besideAtLeast_28 : decode cX8_besideAtLeast 28 = .ok (.lshl, 1) := by decide +kernel
theorem dX8_besideAtLeast_29 : decode cX8_besideAtLeast 29 = .ok (.lstore 7, 2) := by decide +kernel
theorem dX8_besideAtLeast_31 : decode cX8_besideAtLeast 31 = .ok (.lload_n 0, 1) := by decide +kernel
theorem dX8_besideAtLeast_32 : decode cX8_besideAtLeast 32 = .ok (.bipush 8, 2) := by decide +kernel
theorem dX8_besideAtLeast_34 : decode cX8_besideAtLeast 34 = .ok (.lushr, 1) := by decide +kernel
theorem dX8_besideAtLeast_35 : decode cX8_besideAtLeast 35 = .ok (.lstore 9, 2) := by decide +kernel
theorem dX8_besideAtLeast_37 : decode cX8_besideAtLeast 37 = .ok (.iload_n 2, 1) := by decide +kernel
theorem dX8_besideAtLeast_38 : decode cX8_besideAtLeast 38 = .ok (.tableswitch 96 1 4 #[30, 41, 63, 85], 30) := by decide +kernel
theorem dX8_besideAtLeast_68 : decode cX8_besideAtLeast 68 = .ok (.lload_n 3, 1) := by decide +kernel
theorem dX8_besideAtLeast_69 : decode cX8_besideAtLeast 69 = .ok (.lload 5, 2) := by decide +kernel
theorem dX8_besideAtLeast_71 : decode cX8_besideAtLeast 71 = .ok (.lor, 1) := by decide +kernel
theorem dX8_besideAtLeast_72 : decode cX8_besideAtLeast 72 = .ok (.lload 7, 2) := by decide +kernel
theorem dX8_besideAtLeast_74 : decode cX8_besideAtLeast 74 = .ok (.lor, 1) := by decide +kernel
theorem dX8_besideAtLeast_75 : decode cX8_besideAtLeast 75 = .ok (.lload 9, 2) := by decide +kernel
theorem dX8_besideAtLeast_77 : decode cX8_besideAtLeast 77 = .ok (.lor, 1) := by decide +kernel
theorem dX8_besideAtLeast_78 : decode cX8_besideAtLeast 78 = .ok (.lreturn, 1) := by decide +kernel
theorem dX8_besideAtLeast_79 : decode cX8_besideAtLeast 79 = .ok (.lload_n 3, 1) := by decide +kernel
theorem dX8_besideAtLeast_80 : decode cX8_besideAtLeast 80 = .ok (.lload 5, 2) := by decide +kernel
theorem dX8_besideAtLeast_82 : decode cX8_besideAtLeast 82 = .ok (.land, 1) := by decide +kernel
theorem dX8_besideAtLeast_83 : decode cX8_besideAtLeast 83 = .ok (.lload 7, 2) := by decide +kernel
theorem dX8_besideAtLeast_85 : decode cX8_besideAtLeast 85 = .ok (.lload 9, 2) := by decide +kernel
theorem dX8_besideAtLeast_87 : decode cX8_besideAtLeast 87 = .ok (.land, 1) := by decide +kernel
theorem dX8_besideAtLeast_88 : decode cX8_besideAtLeast 88 = .ok (.lor, 1) := by decide +kernel
theorem dX8_besideAtLeast_89 : decode cX8_besideAtLeast 89 = .ok (.lload_n 3, 1) := by decide +kernel
theorem dX8_besideAtLeast_90 : decode cX8_besideAtLeast 90 = .ok (.lload 5, 2) := by decide +kernel
theorem dX8_besideAtLeast_92 : decode cX8_besideAtLeast 92 = .ok (.lor, 1) := by decide +kernel
theorem dX8_besideAtLeast_93 : decode cX8_besideAtLeast 93 = .ok (.lload 7, 2) := by decide +kernel
theorem dX8_besideAtLeast_95 : decode cX8_besideAtLeast 95 = .ok (.lload 9, 2) := by decide +kernel
theorem dX8_besideAtLeast_97 : decode cX8_besideAtLeast 97 = .ok (.lor, 1) := by decide +kernel
theorem dX8_besideAtLeast_98 : decode cX8_besideAtLeast 98 = .ok (.land, 1) := by decide +kernel
theorem dX8_besideAtLeast_99 : decode cX8_besideAtLeast 99 = .ok (.lor, 1) := by decide +kernel
theorem dX8_besideAtLeast_100 : decode cX8_besideAtLeast 100 = .ok (.lreturn, 1) := by decide +kernel
theorem dX8_besideAtLeast_101 : decode cX8_besideAtLeast 101 = .ok (.lload_n 3, 1) := by decide +kernel
theorem dX8_besideAtLeast_102 : decode cX8_besideAtLeast 102 = .ok (.lload 5, 2) := by decide +kernel
theorem dX8_besideAtLeast_104 : decode cX8_besideAtLeast 104 = .ok (.land, 1) := by decide +kernel
theorem dX8_besideAtLeast_105 : decode cX8_besideAtLeast 105 = .ok (.lload 7, 2) := by decide +kernel
theorem dX8_besideAtLeast_107 : decode cX8_besideAtLeast 107 = .ok (.lload 9, 2) := by decide +kernel
theorem dX8_besideAtLeast_109 : decode cX8_besideAtLeast 109 = .ok (.lor, 1) := by decide +kernel
theorem dX8_besideAtLeast_110 : decode cX8_besideAtLeast 110 = .ok (.land, 1) := by decide +kernel
theorem dX8_besideAtLeast_111 : decode cX8_besideAtLeast 111 = .ok (.lload 7, 2) := by decide +kernel
theorem dX8_besideAtLeast_113 : decode cX8_besideAtLeast 113 = .ok (.lload 9, 2) := by decide +kernel
theorem dX8_besideAtLeast_115 : decode cX8_besideAtLeast 115 = .ok (.land, 1) := by decide +kernel
theorem dX8_besideAtLeast_116 : decode cX8_besideAtLeast 116 = .ok (.lload_n 3, 1) := by decide +kernel
theorem dX8_besideAtLeast_117 : decode cX8_besideAtLeast 117 = .ok (.lload 5, 2) := by decide +kernel
theorem dX8_besideAtLeast_119 : decode cX8_besideAtLeast 119 = .ok (.lor, 1) := by decide +kernel
theorem dX8_besideAtLeast_120 : decode cX8_besideAtLeast 120 = .ok (.land, 1) := by decide +kernel
theorem dX8_besideAtLeast_121 : decode cX8_besideAtLeast 121 = .ok (.lor, 1) := by decide +kernel
theorem dX8_besideAtLeast_122 : decode cX8_besideAtLeast 122 = .ok (.lreturn, 1) := by decide +kernel
theorem dX8_besideAtLeast_123 : decode cX8_besideAtLeast 123 = .ok (.lload_n 3, 1) := by decide +kernel
theorem dX8_besideAtLeast_124 : decode cX8_besideAtLeast 124 = .ok (.lload 5, 2) := by decide +kernel
theorem dX8_besideAtLeast_126 : decode cX8_besideAtLeast 126 = .ok (.land, 1) := by decide +kernel
theorem dX8_besideAtLeast_127 : decode cX8_besideAtLeast 127 = .ok (.lload 7, 2) := by decide +kernel
theorem dX8_besideAtLeast_129 : decode cX8_besideAtLeast 129 = .ok (.land, 1) := by decide +kernel
theorem dX8_besideAtLeast_130 : decode cX8_besideAtLeast 130 = .ok (.lload 9, 2) := by decide +kernel
theorem dX8_besideAtLeast_132 : decode cX8_besideAtLeast 132 = .ok (.land, 1) := by decide +kernel
theorem dX8_besideAtLeast_133 : decode cX8_besideAtLeast 133 = .ok (.lreturn, 1) := by decide +kernel
theorem dX8_besideAtLeast_134 : decode cX8_besideAtLeast 134 = .ok (.lconst 0, 1) := by decide +kernel
theorem dX8_besideAtLeast_135 : decode cX8_besideAtLeast 135 = .ok (.lreturn, 1) := by decide +kernel
theorem dX9_init_0 : decode cX9_init 0 = .ok (.aload_n 0, 1) := by decide +kernel
theorem dX9_init_1 : decode cX9_init 1 = .ok (.invokespecial 1, 3) := by decide +kernel
theorem dX9_init_4 : decode cX9_init 4 = .ok (.aload_n 0, 1) := by decide +kernel
theorem dX9_init_5 : decode cX9_init 5 = .ok (.iconst 2, 1) := by decide +kernel
theorem dX9_init_6 : decode cX9_init 6 = .ok (.newarray .int, 2) := by decide +kernel
theorem dX9_init_8 : decode cX9_init 8 = .ok (.putfield 7, 3) := by decide +kernel
theorem dX9_init_11 : decode cX9_init 11 = .ok (.aload_n 0, 1) := by decide +kernel
theorem dX9_init_12 : decode cX9_init 12 = .ok (.bipush 88, 2) := by decide +kernel
theorem dX9_init_14 : decode cX9_init 14 = .ok (.newarray .int, 2) := by decide +kernel
theorem dX9_init_16 : decode cX9_init 16 = .ok (.putfield 13, 3) := by decide +kernel
theorem dX9_init_19 : decode cX9_init 19 = .ok (.aload_n 0, 1) := by decide +kernel
theorem dX9_init_20 : decode cX9_init 20 = .ok (.bipush 48, 2) := by decide +kernel
theorem dX9_init_22 : decode cX9_init 22 = .ok (.newarray .int, 2) := by decide +kernel
theorem dX9_init_24 : decode cX9_init 24 = .ok (.putfield 16, 3) := by decide +kernel
theorem dX9_init_27 : decode cX9_init 27 = .ok (.aload_n 0, 1) := by decide +kernel
theorem dX9_init_28 : decode cX9_init 28 = .ok (.bipush 9, 2) := by decide +kernel
theorem dX9_init_30 : decode cX9_init 30 = .ok (.newarray .int, 2) := by decide +kernel
theorem dX9_init_32 : decode cX9_init 32 = .ok (.putfield 19, 3) := by decide +kernel
theorem dX9_init_35 : decode cX9_init 35 = .ok (.aload_n 0, 1) := by decide +kernel
theorem dX9_init_36 : decode cX9_init 36 = .ok (.bipush 9, 2) := by decide +kernel
theorem dX9_init_38 : decode cX9_init 38 = .ok (.newarray .int, 2) := by decide +kernel
theorem dX9_init_40 : decode cX9_init 40 = .ok (.putfield 22, 3) := by decide +kernel
theorem dX9_init_43 : decode cX9_init 43 = .ok (.aload_n 0, 1) := by decide +kernel
theorem dX9_init_44 : decode cX9_init 44 = .ok (.bipush 6, 2) := by decide +kernel
theorem dX9_init_46 : decode cX9_init 46 = .ok (.newarray .int, 2) := by decide +kernel
theorem dX9_init_48 : decode cX9_init 48 = .ok (.putfield 25, 3) := by decide +kernel
theorem dX9_init_51 : decode cX9_init 51 = .ok (.aload_n 0, 1) := by decide +kernel
theorem dX9_init_52 : decode cX9_init 52 = .ok (.bipush 6, 2) := by decide +kernel
theorem dX9_init_54 : decode cX9_init 54 = .ok (.newarray .int, 2) := by decide +kernel
theorem dX9_init_56 : decode cX9_init 56 = .ok (.putfield 28, 3) := by decide +kernel
theorem dX9_init_59 : decode cX9_init 59 = .ok (.aload_n 0, 1) := by decide +kernel
theorem dX9_init_60 : decode cX9_init 60 = .ok (.bipush 7, 2) := by decide +kernel
theorem dX9_init_62 : decode cX9_init 62 = .ok (.newarray .int, 2) := by decide +kernel
theorem dX9_init_64 : decode cX9_init 64 = .ok (.putfield 31, 3) := by decide +kernel
theorem dX9_init_67 : decode cX9_init 67 = .ok (.aload_n 0, 1) := by decide +kernel
theorem dX9_init_68 : decode cX9_init 68 = .ok (.bipush 7, 2) := by decide +kernel
theorem dX9_init_70 : decode cX9_init 70 = .ok (.newarray .int, 2) := by decide +kernel
theorem dX9_init_72 : decode cX9_init 72 = .ok (.putfield 34, 3) := by decide +kernel
theorem dX9_init_75 : decode cX9_init 75 = .ok (.aload_n 0, 1) := by decide +kernel
theorem dX9_init_76 : decode cX9_init 76 = .ok (.bipush 7, 2) := by decide +kernel
theorem dX9_init_78 : decode cX9_init 78 = .ok (.newarray .int, 2) := by decide +kernel
theorem dX9_init_80 : decode cX9_init 80 = .ok (.putfield 37, 3) := by decide +kernel
theorem dX9_init_83 : decode cX9_init 83 = .ok (.aload_n 0, 1) := by decide +kernel
theorem dX9_init_84 : decode cX9_init 84 = .ok (.bipush 40, 2) := by decide +kernel
theorem dX9_init_86 : decode cX9_init 86 = .ok (.newarray .int, 2) := by decide +kernel
theorem dX9_init_88 : decode cX9_init 88 = .ok (.putfield 40, 3) := by decide +kernel
theorem dX9_init_91 : decode cX9_init 91 = .ok (.aload_n 0, 1) := by decide +kernel
theorem dX9_init_92 : decode cX9_init 92 = .ok (.bipush 6, 2) := by decide +kernel
theorem dX9_init_94 : decode cX9_init 94 = .ok (.newarray .int, 2) := by decide +kernel
theorem dX9_init_96 : decode cX9_init 96 = .ok (.putfield 43, 3) := by decide +kernel
theorem dX9_init_99 : decode cX9_init 99 = .ok (.aload_n 0, 1) := by decide +kernel
theorem dX9_init_100 : decode cX9_init 100 = .ok (.bipush 6, 2) := by decide +kernel
theorem dX9_init_102 : decode cX9_init 102 = .ok (.newarray .int, 2) := by decide +kernel
theorem dX9_init_104 : decode cX9_init 104 = .ok (.putfield 46, 3) := by decide +kernel
theorem dX9_init_107 : decode cX9_init 107 = .ok (.aload_n 0, 1) := by decide +kernel
theorem dX9_init_108 : decode cX9_init 108 = .ok (.bipush 40, 2) := by decide +kernel
theorem dX9_init_110 : decode cX9_init 110 = .ok (.newarray .int, 2) := by decide +kernel
theorem dX9_init_112 : decode cX9_init 112 = .ok (.putfield 49, 3) := by decide +kernel
theorem dX9_init_115 : decode cX9_init 115 = .ok (.aload_n 0, 1) := by decide +kernel
theorem dX9_init_116 : decode cX9_init 116 = .ok (.bipush 8, 2) := by decide +kernel
theorem dX9_init_118 : decode cX9_init 118 = .ok (.newarray .int, 2) := by decide +kernel
theorem dX9_init_120 : decode cX9_init 120 = .ok (.putfield 52, 3) := by decide +kernel
theorem dX9_init_123 : decode cX9_init 123 = .ok (.aload_n 0, 1) := by decide +kernel
theorem dX9_init_124 : decode cX9_init 124 = .ok (.sipush 800, 3) := by decide +kernel
theorem dX9_init_127 : decode cX9_init 127 = .ok (.newarray .int, 2) := by decide +kernel
theorem dX9_init_129 : decode cX9_init 129 = .ok (.putfield 55, 3) := by decide +kernel
theorem dX9_init_132 : decode cX9_init 132 = .ok (.aload_n 0, 1) := by decide +kernel
theorem dX9_init_133 : decode cX9_init 133 = .ok (.sipush 800, 3) := by decide +kernel
theorem dX9_init_136 : decode cX9_init 136 = .ok (.newarray .int, 2) := by decide +kernel
theorem dX9_init_138 : decode cX9_init 138 = .ok (.putfield 58, 3) := by decide +kernel
theorem dX9_init_141 : decode cX9_init 141 = .ok (.aload_n 0, 1) := by decide +kernel
theorem dX9_init_142 : decode cX9_init 142 = .ok (.bipush 20, 2) := by decide +kernel
theorem dX9_init_144 : decode cX9_init 144 = .ok (.newarray .int, 2) := by decide +kernel
theorem dX9_init_146 : decode cX9_init 146 = .ok (.putfield 61, 3) := by decide +kernel
theorem dX9_init_149 : decode cX9_init 149 = .ok (.aload_n 0, 1) := by decide +kernel
theorem dX9_init_150 : decode cX9_init 150 = .ok (.bipush 20, 2) := by decide +kernel
theorem dX9_init_152 : decode cX9_init 152 = .ok (.newarray .int, 2) := by decide +kernel
theorem dX9_init_154 : decode cX9_init 154 = .ok (.putfield 64, 3) := by decide +kernel
theorem dX9_init_157 : decode cX9_init 157 = .ok (.aload_n 0, 1) := by decide +kernel
theorem dX9_init_158 : decode cX9_init 158 = .ok (.sipush 160, 3) := by decide +kernel
theorem dX9_init_161 : decode cX9_init 161 = .ok (.newarray .int, 2) := by decide +kernel
theorem dX9_init_163 : decode cX9_init 163 = .ok (.putfield 67, 3) := by decide +kernel
theorem dX9_init_166 : decode cX9_init 166 = .ok (.aload_n 0, 1) := by decide +kernel
theorem dX9_init_167 : decode cX9_init 167 = .ok (.sipush 160, 3) := by decide +kernel
theorem dX9_init_170 : decode cX9_init 170 = .ok (.newarray .boolean, 2) := by decide +kernel
theorem dX9_init_172 : decode cX9_init 172 = .ok (.putfield 70, 3) := by decide +kernel
theorem dX9_init_175 : decode cX9_init 175 = .ok (.aload_n 0, 1) := by decide +kernel
theorem dX9_init_176 : decode cX9_init 176 = .ok (.bipush 8, 2) := by decide +kernel
theorem dX9_init_178 : decode cX9_init 178 = .ok (.newarray .int, 2) := by decide +kernel
theorem dX9_init_180 : decode cX9_init 180 = .ok (.putfield 74, 3) := by decide +kernel
theorem dX9_init_183 : decode cX9_init 183 = .ok (.aload_n 0, 1) := by decide +kernel
theorem dX9_init_184 : decode cX9_init 184 = .ok (.bipush 8, 2) := by decide +kernel
theorem dX9_init_186 : decode cX9_init 186 = .ok (.newarray .int, 2) := by decide +kernel
theorem dX9_init_188 : decode cX9_init 188 = .ok (.putfield 77, 3) := by decide +kernel
theorem dX9_init_191 : decode cX9_init 191 = .ok (.aload_n 0, 1) := by decide +kernel
theorem dX9_init_192 : decode cX9_init 192 = .ok (.bipush 8, 2) := by decide +kernel
theorem dX9_init_194 : decode cX9_init 194 = .ok (.newarray .int, 2) := by decide +kernel
theorem dX9_init_196 : decode cX9_init 196 = .ok (.putfield 80, 3) := by decide +kernel
theorem dX9_init_199 : decode cX9_init 199 = .ok (.aload_n 0, 1) := by decide +kernel
theorem dX9_init_200 : decode cX9_init 200 = .ok (.sipush 200, 3) := by decide +kernel
theorem dX9_init_203 : decode cX9_init 203 = .ok (.newarray .int, 2) := by decide +kernel
theorem dX9_init_205 : decode cX9_init 205 = .ok (.putfield 83, 3) := by decide +kernel
theorem dX9_init_208 : decode cX9_init 208 = .ok (.aload_n 0, 1) := by decide +kernel
theorem dX9_init_209 : decode cX9_init 209 = .ok (.iconst 4, 1) := by decide +kernel
theorem dX9_init_210 : decode cX9_init 210 = .ok (.newarray .boolean, 2) := by decide +kernel
theorem dX9_init_212 : decode cX9_init 212 = .ok (.putfield 86, 3) := by decide +kernel
theorem dX9_init_215 : decode cX9_init 215 = .ok (.aload_n 0, 1) := by decide +kernel
theorem dX9_init_216 : decode cX9_init 216 = .ok (.iconst 4, 1) := by decide +kernel
theorem dX9_init_217 : decode cX9_init 217 = .ok (.newarray .int, 2) := by decide +kernel
theorem dX9_init_219 : decode cX9_init 219 = .ok (.putfield 89, 3) := by decide +kernel
theorem dX9_init_222 : decode cX9_init 222 = .ok (.aload_n 0, 1) := by decide +kernel
theorem dX9_init_223 : decode cX9_init 223 = .ok (.iconst 4, 1) := by decide +kernel
theorem dX9_init_224 : decode cX9_init 224 = .ok (.newarray .int, 2) := by decide +kernel
theorem dX9_init_226 : decode cX9_init 226 = .ok (.putfield 92, 3) := by decide +kernel
theorem dX9_init_229 : decode cX9_init 229 = .ok (.aload_n 0, 1) := by decide +kernel
theorem dX9_init_230 : decode cX9_init 230 = .ok (.sipush 240, 3) := by decide +kernel
theorem dX9_init_233 : decode cX9_init 233 = .ok (.newarray .int, 2) := by decide +kernel
theorem dX9_init_235 : decode cX9_init 235 = .ok (.putfield 95, 3) := by decide +kernel
theorem dX9_init_238 : decode cX9_init 238 = .ok (.aload_n 0, 1) := by decide +kernel
theorem dX9_init_239 : decode cX9_init 239 = .ok (.bipush 60, 2) := by decide +kernel
theorem dX9_init_241 : decode cX9_init 241 = .ok (.newarray .int, 2) := by decide +kernel
theorem dX9_init_243 : decode cX9_init 243 = .ok (.putfield 98, 3) := by decide +kernel
theorem dX9_init_246 : decode cX9_init 246 = .ok (.aload_n 0, 1) := by decide +kernel
theorem dX9_init_247 : decode cX9_init 247 = .ok (.iconst 2, 1) := by decide +kernel
theorem dX9_init_248 : decode cX9_init 248 = .ok (.putfield 101, 3) := by decide +kernel
theorem dX9_init_251 : decode cX9_init 251 = .ok (.return_, 1) := by decide +kernel
theorem dX9_in_0 : decode cX9_in 0 = .ok (.iload_n 0, 1) := by decide +kernel
theorem dX9_in_1 : decode cX9_in 1 = .ok (.iload_n 1, 1) := by decide +kernel
theorem dX9_in_2 : decode cX9_in 2 = .ok (.if_icmp .lt 12, 3) := by decide +kernel
theorem dX9_in_5 : decode cX9_in 5 = .ok (.iload_n 0, 1) := by decide +kernel
theorem dX9_in_6 : decode cX9_in 6 = .ok (.iload_n 2, 1) := by decide +kernel
theorem dX9_in_7 : decode cX9_in 7 = .ok (.if_icmp .gt 7, 3) := by decide +kernel
theorem dX9_in_10 : decode cX9_in 10 = .ok (.iconst 1, 1) := by decide +kernel
theorem dX9_in_11 : decode cX9_in 11 = .ok (.goto 4, 3) := by decide +kernel
theorem dX9_in_14 : decode cX9_in 14 = .ok (.iconst 0, 1) := by decide +kernel
theorem dX9_in_15 : decode cX9_in 15 = .ok (.ireturn, 1) := by decide +kernel
theorem dX9_isIn_0 : decode cX9_isIn 0 = .ok (.iload_n 0, 1) := by decide +kernel
theorem dX9_isIn_1 : decode cX9_isIn 1 = .ok (.iload_n 1, 1) := by decide +kernel
theorem dX9_isIn_2 : decode cX9_isIn 2 = .ok (.ishr, 1) := by decide +kernel
theorem dX9_isIn_3 : decode cX9_isIn 3 = .ok (.iconst 1, 1) := by decide +kernel
theorem dX9_isIn_4 : decode cX9_isIn 4 = .ok (.iand, 1) := by decide +kernel
theorem dX9_isIn_5 : decode cX9_isIn 5 = .ok (.iconst 1, 1) := by decide +kernel
theorem dX9_isIn_6 : decode cX9_isIn 6 = .ok (.if_icmp .ne 7, 3) := by decide +kernel
theorem dX9_isIn_9 : decode cX9_isIn 9 = .ok (.iconst 1, 1) := by decide +kernel
theorem dX9_isIn_10 : decode cX9_isIn 10 = .ok (.goto 4, 3) := by decide +kernel
theorem dX9_isIn_13 : decode cX9_isIn 13 = .ok (.iconst 0, 1) := by decide +kernel
theorem dX9_isIn_14 : decode cX9_isIn 14 = .ok (.ireturn, 1) := by decide +kernel
theorem dX9_no_0 : decode cX9_no 0 = .ok (.ldc2_w 105, 3) := by decide +kernel
theorem dX9_no_3 : decode cX9_no 3 = .ok (.iload_n 0, 1) := by decide +kernel
theorem dX9_no_4 : decode cX9_no 4 = .ok (.i2l, 1) := by decide +kernel
theorem dX9_no_5 : decode cX9_no 5 = .ok (.lsub, 1) := by decide +kernel
theorem dX9_no_6 : decode cX9_no 6 = .ok (.lreturn, 1) := by decide +kernel
theorem dX9_lowest_0 : decode cX9_lowest 0 = .ok (.lload_n 0, 1) := by decide +kernel
theorem dX9_lowest_1 : decode cX9_lowest 1 = .ok (.lstore 5, 2) := by decide +kernel
theorem dX9_lowest_3 : decode cX9_lowest 3 = .ok (.lload_n 2, 1) := by decide +kernel
theorem dX9_lowest_4 : decode cX9_lowest 4 = .ok (.lstore 7, 2) := by decide +kernel
theorem dX9_lowest_6 : decode cX9_lowest 6 = .ok (.lload 7, 2) := by decide +kernel
theorem dX9_lowest_8 : decode cX9_lowest 8 = .ok (.lconst 0, 1) := by decide +kernel
theorem dX9_lowest_9 : decode cX9_lowest 9 = .ok (.lcmp, 1) := by decide +kernel
theorem dX9_lowest_10 : decode cX9_lowest 10 = .ok (.ifCond .eq 21, 3) := by decide +kernel
theorem dX9_lowest_13 : decode cX9_lowest 13 = .ok (.lload 5, 2) := by decide +kernel
theorem dX9_lowest_15 : decode cX9_lowest 15 = .ok (.lload 7, 2) := by decide +kernel
theorem dX9_lowest_17 : decode cX9_lowest 17 = .ok (.lrem, 1) := by decide +kernel
theorem dX9_lowest_18 : decode cX9_lowest 18 = .ok (.lstore 9, 2) := by decide +kernel
theorem dX9_lowest_20 : decode cX9_lowest 20 = .ok (.lload 7, 2) := by decide +kernel
theorem dX9_lowest_22 : decode cX9_lowest 22 = .ok (.lstore 5, 2) := by decide +kernel
theorem dX9_lowest_24 : decode cX9_lowest 24 = .ok (.lload 9, 2) := by decide +kernel
theorem dX9_lowest_26 : decode cX9_lowest 26 = .ok (.lstore 7, 2) := by decide +kernel
theorem dX9_lowest_28 : decode cX9_lowest 28 = .ok (.goto (-22), 3) := by decide +kernel
theorem dX9_lowest_31 : decode cX9_lowest 31 = .ok (.iload 4, 2) := by decide +kernel
theorem dX9_lowest_33 : decode cX9_lowest 33 = .ok (.ifCond .ne 10, 3) := by decide +kernel
theorem dX9_lowest_36 : decode cX9_lowest 36 = .ok (.lload_n 0, 1) := by decide +kernel
theorem dX9_lowest_37 : decode cX9_lowest 37 = .ok (.lload 5, 2) := by decide +kernel
theorem dX9_lowest_39 : decode cX9_lowest 39 = .ok (.ldiv, 1) := by decide +kernel
theorem dX9_lowest_40 : decode cX9_lowest 40 = .ok (.goto 7, 3) := by decide +kernel
theorem dX9_lowest_43 : decode cX9_lowest 43 = .ok (.lload_n 2, 1) := by decide +kernel
theorem dX9_lowest_44 : decode cX9_lowest 44 = .ok (.lload 5, 2) := by decide +kernel
theorem dX9_lowest_46 : decode cX9_lowest 46 = .ok (.ldiv, 1) := by decide +kernel
theorem dX9_lowest_47 : decode cX9_lowest 47 = .ok (.lreturn, 1) := by decide +kernel
theorem dX9_isText_0 : decode cX9_isText 0 = .ok (.iload_n 0, 1) := by decide +kernel
theorem dX9_isText_1 : decode cX9_isText 1 = .ok (.iconst 0, 1) := by decide +kernel
theorem dX9_isText_2 : decode cX9_isText 2 = .ok (.iconst 1, 1) := by decide +kernel
theorem dX9_isText_3 : decode cX9_isText 3 = .ok (.invokestatic 107, 3) := by decide +kernel
theorem dX9_isText_6 : decode cX9_isText 6 = .ok (.ireturn, 1) := by decide +kernel
theorem dX9_isYear_0 : decode cX9_isYear 0 = .ok (.iload_n 0, 1) := by decide +kernel
theorem dX9_isYear_1 : decode cX9_isYear 1 = .ok (.iconst 0, 1) := by decide +kernel
theorem dX9_isYear_2 : decode cX9_isYear 2 = .ok (.bipush 19, 2) := by decide +kernel
theorem dX9_isYear_4 : decode cX9_isYear 4 = .ok (.invokestatic 107, 3) := by decide +kernel
theorem dX9_isYear_7 : decode cX9_isYear 7 = .ok (.ireturn, 1) := by decide +kernel
theorem dX9_isEight_0 : decode cX9_isEight 0 = .ok (.iload_n 0, 1) := by decide +kernel
theorem dX9_isEight_1 : decode cX9_isEight 1 = .ok (.iconst 0, 1) := by decide +kernel
theorem dX9_isEight_2 : decode cX9_isEight 2 = .ok (.bipush 7, 2) := by decide +kernel
theorem dX9_isEight_4 : decode cX9_isEight 4 = .ok (.invokestatic 107, 3) := by decide +kernel
theorem dX9_isEight_7 : decode cX9_isEight 7 = .ok (.ireturn, 1) := by decide +kernel
theorem dX9_isPlace_0 : decode cX9_isPlace 0 = .ok (.iload_n 0, 1) := by decide +kernel
theorem dX9_isPlace_1 : decode cX9_isPlace 1 = .ok (.iconst 0, 1) := by decide +kernel
theorem dX9_isPlace_2 : decode cX9_isPlace 2 = .ok (.iconst 4, 1) := by decide +kernel
theorem dX9_isPlace_3 : decode cX9_isPlace 3 = .ok (.invokestatic 107, 3) := by decide +kernel
theorem dX9_isPlace_6 : decode cX9_isPlace 6 = .ok (.ifCond .eq 14, 3) := by decide +kernel
theorem dX9_isPlace_9 : decode cX9_isPlace 9 = .ok (.iload_n 1, 1) := by decide +kernel
theorem dX9_isPlace_10 : decode cX9_isPlace 10 = .ok (.invokestatic 111, 3) := by decide +kernel
theorem dX9_isPlace_13 : decode cX9_isPlace 13 = .ok (.ifCond .eq 7, 3) := by decide +kernel
theorem dX9_isPlace_16 : decode cX9_isPlace 16 = .ok (.iconst 1, 1) := by decide +kernel
theorem dX9_isPlace_17 : decode cX9_isPlace 17 = .ok (.goto 4, 3) := by decide +kernel
theorem dX9_isPlace_20 : decode cX9_isPlace 20 = .ok (.iconst 0, 1) := by decide +kernel
theorem dX9_isPlace_21 : decode cX9_isPlace 21 = .ok (.ireturn, 1) := by decide +kernel
theorem dX9_type_0 : decode cX9_type 0 = .ok (.iload_n 1, 1) := by decide +kernel
theorem dX9_type_1 : decode cX9_type 1 = .ok (.invokestatic 115, 3) := by decide +kernel
theorem dX9_type_4 : decode cX9_type 4 = .ok (.ifCond .eq 14, 3) := by decide +kernel
theorem dX9_type_7 : decode cX9_type 7 = .ok (.iload_n 2, 1) := by decide +kernel
theorem dX9_type_8 : decode cX9_type 8 = .ok (.iconst 0, 1) := by decide +kernel
theorem dX9_type_9 : decode cX9_type 9 = .ok (.sipush 255, 3) := by decide +kernel
theorem dX9_type_12 : decode cX9_type 12 = .ok (.invokestatic 107, 3) := by decide +kernel
theorem dX9_type_15 : decode cX9_type 15 = .ok (.ifCond .ne 6, 3) := by decide +kernel
theorem dX9_type_18 : decode cX9_type 18 = .ok (.bipush (-2), 2) := by decide +kernel
theorem dX9_type_20 : decode cX9_type 20 = .ok (.ireturn, 1) := by decide +kernel
theorem dX9_type_21 : decode cX9_type 21 = .ok (.aload_n 0, 1) := by decide +kernel
theorem dX9_type_22 : decode cX9_type 22 = .ok (.getfield 7, 3) := by decide +kernel
theorem dX9_type_25 : decode cX9_type 25 = .ok (.iload_n 1, 1) := by decide +kernel
theorem dX9_type_26 : decode cX9_type 26 = .ok (.iaload, 1) := by decide +kernel
theorem dX9_type_27 : decode cX9_type 27 = .ok (.iload_n 1, 1) := by decide +kernel
theorem dX9_type_28 : decode cX9_type 28 = .ok (.ifCond .ne 8, 3) := by decide +kernel
theorem dX9_type_31 : decode cX9_type 31 = .ok (.bipush 44, 2) := by decide +kernel
theorem dX9_type_33 : decode cX9_type 33 = .ok (.goto 5, 3) := by decide +kernel
theorem dX9_type_36 : decode cX9_type 36 = .ok (.bipush 23, 2) := by decide +kernel
theorem dX9_type_38 : decode cX9_type 38 = .ok (.if_icmp .ne 6, 3) := by decide +kernel
theorem dX9_type_41 : decode cX9_type 41 = .ok (.bipush (-4), 2) := by decide +kernel
theorem dX9_type_43 : decode cX9_type 43 = .ok (.ireturn, 1) := by decide +kernel
theorem dX9_type_44 : decode cX9_type 44 = .ok (.aload_n 0, 1) := by decide +kernel
theorem dX9_type_45 : decode cX9_type 45 = .ok (.getfield 13, 3) := by decide +kernel
theorem dX9_type_48 : decode cX9_type 48 = .ok (.bipush 44, 2) := by decide +kernel
theorem dX9_type_50 : decode cX9_type 50 = .ok (.iload_n 1, 1) := by decide +kernel
theorem dX9_type_51 : decode cX9_type 51 = .ok (.imul, 1) := by decide +kernel
theorem dX9_type_52 : decode cX9_type 52 = .ok (.aload_n 0, 1) := by decide +kernel
theorem dX9_type_53 : decode cX9_type 53 = .ok (.getfield 7, 3) := by decide +kernel
theorem dX9_type_56 : decode cX9_type 56 = .ok (.iload_n 1, 1) := by decide +kernel
theorem dX9_type_57 : decode cX9_type 57 = .ok (.iaload, 1) := by decide +kernel
theorem dX9_type_58 : decode cX9_type 58 = .ok (.iadd, 1) := by decide +kernel
theorem dX9_type_59 : decode cX9_type 59 = .ok (.iload_n 2, 1) := by decide +kernel
theorem dX9_type_60 : decode cX9_type 60 = .ok (.iastore, 1) := by decide +kernel
theorem dX9_type_61 : decode cX9_type 61 = .ok (.aload_n 0, 1) := by decide +kernel
theorem dX9_type_62 : decode cX9_type 62 = .ok (.getfield 7, 3) := by decide +kernel
theorem dX9_type_65 : decode cX9_type 65 = .ok (.iload_n 1, 1) := by decide +kernel
theorem dX9_type_66 : decode cX9_type 66 = .ok (.dup2, 1) := by decide +kernel
theorem dX9_type_67 : decode cX9_type 67 = .ok (.iaload, 1) := by decide +kernel
theorem dX9_type_68 : decode cX9_type 68 = .ok (.iconst 1, 1) := by decide +kernel
theorem dX9_type_69 : decode cX9_type 69 = .ok (.iadd, 1) := by decide +kernel
theorem dX9_type_70 : decode cX9_type 70 = .ok (.iastore, 1) := by decide +kernel
theorem dX9_type_71 : decode cX9_type 71 = .ok (.aload_n 0, 1) := by decide +kernel
theorem dX9_type_72 : decode cX9_type 72 = .ok (.getfield 7, 3) := by decide +kernel
theorem dX9_type_75 : decode cX9_type 75 = .ok (.iload_n 1, 1) := by decide +kernel
theorem dX9_type_76 : decode cX9_type 76 = .ok (.iaload, 1) := by decide +kernel
theorem dX9_type_77 : decode cX9_type 77 = .ok (.ireturn, 1) := by decide +kernel
theorem dX9_wipe_0 : decode cX9_wipe 0 = .ok (.iload_n 1, 1) := by decide +kernel
theorem dX9_wipe_1 : decode cX9_wipe 1 = .ok (.invokestatic 115, 3) := by decide +kernel
theorem dX9_wipe_4 : decode cX9_wipe 4 = .ok (.ifCond .ne 6, 3) := by decide +kernel
theorem dX9_wipe_7 : decode cX9_wipe 7 = .ok (.bipush (-2), 2) := by decide +kernel
theorem dX9_wipe_9 : decode cX9_wipe 9 = .ok (.ireturn, 1) := by decide +kernel
theorem dX9_wipe_10 : decode cX9_wipe 10 = .ok (.aload_n 0, 1) := by decide +kernel
theorem dX9_wipe_11 : decode cX9_wipe 11 = .ok (.getfield 7, 3) := by decide +kernel
theorem dX9_wipe_14 : decode cX9_wipe 14 = .ok (.iload_n 1, 1) := by decide +kernel
theorem dX9_wipe_15 : decode cX9_wipe 15 = .ok (.iaload, 1) := by decide +kernel
theorem dX9_wipe_16 : decode cX9_wipe 16 = .ok (.istore_n 2, 1) := by decide +kernel
theorem dX9_wipe_17 : decode cX9_wipe 17 = .ok (.aload_n 0, 1) := by decide +kernel
theorem dX9_wipe_18 : decode cX9_wipe 18 = .ok (.getfield 7, 3) := by decide +kernel
theorem dX9_wipe_21 : decode cX9_wipe 21 = .ok (.iload_n 1, 1) := by decide +kernel
theorem dX9_wipe_22 : decode cX9_wipe 22 = .ok (.iconst 0, 1) := by decide +kernel
theorem dX9_wipe_23 : decode cX9_wipe 23 = .ok (.iastore, 1) := by decide +kernel
theorem dX9_wipe_24 : decode cX9_wipe 24 = .ok (.iload_n 2, 1) := by decide +kernel
theorem dX9_wipe_25 : decode cX9_wipe 25 = .ok (.ireturn, 1) := by decide +kernel
theorem dX9_undo_0 : decode cX9_undo 0 = .ok (.iload_n 1, 1) := by decide +kernel
theorem dX9_undo_1 : decode cX9_undo 1 = .ok (.invokestatic 115, 3) := by decide +kernel
theorem dX9_undo_4 : decode cX9_undo 4 = .ok (.ifCond .ne 6, 3) := by decide +kernel
theorem dX9_undo_7 : decode cX9_undo 7 = .ok (.bipush (-2), 2) := by decide +kernel
theorem dX9_undo_9 : decode cX9_undo 9 = .ok (.ireturn, 1) := by decide +kernel
theorem dX9_undo_10 : decode cX9_undo 10 = .ok (.aload_n 0, 1) := by decide +kernel
theorem dX9_undo_11 : decode cX9_undo 11 = .ok (.getfield 7, 3) := by decide +kernel
theorem dX9_undo_14 : decode cX9_undo 14 = .ok (.iload_n 1, 1) := by decide +kernel
theorem dX9_undo_15 : decode cX9_undo 15 = .ok (.iaload, 1) := by decide +kernel
theorem dX9_undo_16 : decode cX9_undo 16 = .ok (.ifCond .ne 6, 3) := by decide +kernel
theorem dX9_undo_19 : decode cX9_undo 19 = .ok (.bipush (-3), 2) := by decide +kernel
theorem dX9_undo_21 : decode cX9_undo 21 = .ok (.ireturn, 1) := by decide +kernel
theorem dX9_undo_22 : decode cX9_undo 22 = .ok (.aload_n 0, 1) := by decide +kernel
theorem dX9_undo_23 : decode cX9_undo 23 = .ok (.getfield 7, 3) := by decide +kernel
theorem dX9_undo_26 : decode cX9_undo 26 = .ok (.iload_n 1, 1) := by decide +kernel
theorem dX9_undo_27 : decode cX9_undo 27 = .ok (.dup2, 1) := by decide +kernel
theorem dX9_undo_28 : decode cX9_undo 28 = .ok (.iaload, 1) := by decide +kernel
theorem dX9_undo_29 : decode cX9_undo 29 = .ok (.iconst 1, 1) := by decide +kernel
theorem dX9_undo_30 : decode cX9_undo 30 = .ok (.isub, 1) := by decide +kernel
theorem dX9_undo_31 : decode cX9_undo 31 = .ok (.iastore, 1) := by decide +kernel
theorem dX9_undo_32 : decode cX9_undo 32 = .ok (.aload_n 0, 1) := by decide +kernel
theorem dX9_undo_33 : decode cX9_undo 33 = .ok (.getfield 7, 3) := by decide +kernel
theorem dX9_undo_36 : decode cX9_undo 36 = .ok (.iload_n 1, 1) := by decide +kernel
theorem dX9_undo_37 : decode cX9_undo 37 = .ok (.iaload, 1) := by decide +kernel
theorem dX9_undo_38 : decode cX9_undo 38 = .ok (.ireturn, 1) := by decide +kernel
theorem dX9_noWall_0 : decode cX9_noWall 0 = .ok (.aload_n 0, 1) := by decide +kernel
theorem dX9_noWall_1 : decode cX9_noWall 1 = .ok (.iconst 0, 1) := by decide +kernel
theorem dX9_noWall_2 : decode cX9_noWall 2 = .ok (.putfield 118, 3) := by decide +kernel
theorem dX9_noWall_5 : decode cX9_noWall 5 = .ok (.aload_n 0, 1) := by decide +kernel
theorem dX9_noWall_6 : decode cX9_noWall 6 = .ok (.iconst 0, 1) := by decide +kernel
theorem dX9_noWall_7 : decode cX9_noWall 7 = .ok (.putfield 121, 3) := by decide +kernel
theorem dX9_noWall_10 : decode cX9_noWall 10 = .ok (.iconst 0, 1) := by decide +kernel
theorem dX9_noWall_11 : decode cX9_noWall 11 = .ok (.istore_n 1, 1) := by decide +kernel
theorem dX9_noWall_12 : decode cX9_noWall 12 = .ok (.iload_n 1, 1) := by decide +kernel
theorem dX9_noWall_13 : decode cX9_noWall 13 = .ok (.bipush 48, 2) := by decide +kernel
theorem dX9_noWall_15 : decode cX9_noWall 15 = .ok (.if_icmp .ge 16, 3) := by decide +kernel
theorem dX9_noWall_18 : decode cX9_noWall 18 = .ok (.aload_n 0, 1) := by decide +kernel
theorem dX9_noWall_19 : decode cX9_noWall 19 = .ok (.getfield 16, 3) := by decide +kernel
theorem dX9_noWall_22 : decode cX9_noWall 22 = .ok (.iload_n 1, 1) := by decide +kernel
theorem dX9_noWall_23 : decode cX9_noWall 23 = .ok (.iconst (-1), 1) := by decide +kernel
theorem dX9_noWall_24 : decode cX9_noWall 24 = .ok (.iastore, 1) := by decide +kernel
theorem dX9_noWall_25 : decode cX9_noWall 25 = .ok (.iinc 1 1, 3) := by decide +kernel
theorem dX9_noWall_28 : decode cX9_noWall 28 = .ok (.goto (-16), 3) := by decide +kernel
theorem dX9_noWall_31 : decode cX9_noWall 31 = .ok (.return_, 1) := by decide +kernel
theorem dX9_faultOfWall_0 : decode cX9_faultOfWall 0 = .ok (.iconst 0, 1) := by decide +kernel
theorem dX9_faultOfWall_1 : decode cX9_faultOfWall 1 = .ok (.istore_n 1, 1) := by decide +kernel
theorem dX9_faultOfWall_2 : decode cX9_faultOfWall 2 = .ok (.iconst 0, 1) := by decide +kernel
theorem dX9_faultOfWall_3 : decode cX9_faultOfWall 3 = .ok (.istore_n 2, 1) := by decide +kernel
theorem dX9_faultOfWall_4 : decode cX9_faultOfWall 4 = .ok (.bipush 8, 2) := by decide +kernel
theorem dX9_faultOfWall_6 : decode cX9_faultOfWall 6 = .ok (.istore_n 3, 1) := by decide +kernel
theorem dX9_faultOfWall_7 : decode cX9_faultOfWall 7 = .ok (.iconst 0, 1) := by decide +kernel
theorem dX9_faultOfWall_8 : decode cX9_faultOfWall 8 = .ok (.istore 4, 2) := by decide +kernel
theorem dX9_faultOfWall_10 : decode cX9_faultOfWall 10 = .ok (.iload 4, 2) := by decide +kernel
theorem dX9_faultOfWall_12 : decode cX9_faultOfWall 12 = .ok (.aload_n 0, 1) := by decide +kernel
theorem dX9_faultOfWall_13 : decode cX9_faultOfWall 13 = .ok (.getfield 7, 3) := by decide +kernel
theorem dX9_faultOfWall_16 : decode cX9_faultOfWall 16 = .ok (.iconst 0, 1) := by decide +kernel
theorem dX9_faultOfWall_17 : decode cX9_faultOfWall 17 = .ok (.iaload, 1) := by decide +kernel
theorem dX9_faultOfWall_18 : decode cX9_faultOfWall 18 = .ok (.if_icmp .ge 162, 3) := by decide +kernel
theorem dX9_faultOfWall_21 : decode cX9_faultOfWall 21 = .ok (.aload_n 0, 1) := by decide +kernel
theorem dX9_faultOfWall_22 : decode cX9_faultOfWall 22 = .ok (.getfield 13, 3) := by decide +kernel
theorem dX9_faultOfWall_25 : decode cX9_faultOfWall 25 = .ok (.iload 4, 2) := by decide +kernel
theorem dX9_faultOfWall_27 : decode cX9_faultOfWall 27 = .ok (.iaload, 1) := by decide +kernel
theorem dX9_faultOfWall_28 : decode cX9_faultOfWall 28 = .ok (.istore 5, 2) := by decide +kernel
theorem dX9_faultOfWall_30 : decode cX9_faultOfWall 30 = .ok (.iload 5, 2) := by decide +kernel
theorem dX9_faultOfWall_32 : decode cX9_faultOfWall 32 = .ok (.bipush 59, 2) := by decide +kernel
theorem dX9_faultOfWall_34 : decode cX9_faultOfWall 34 = .ok (.if_icmp .ne 7, 3) := by decide +kernel
theorem dX9_faultOfWall_37 : decode cX9_faultOfWall 37 = .ok (.iconst 1, 1) := by decide +kernel
theorem dX9_faultOfWall_38 : decode cX9_faultOfWall 38 = .ok (.goto 4, 3) := by decide +kernel
theorem dX9_faultOfWall_41 : decode cX9_faultOfWall 41 = .ok (.iconst 0, 1) := by decide +kernel
theorem dX9_faultOfWall_42 : decode cX9_faultOfWall 42 = .ok (.istore 6, 2) := by decide +kernel
theorem dX9_faultOfWall_44 : decode cX9_faultOfWall 44 = .ok (.iload_n 2, 1) := by decide +kernel
theorem dX9_faultOfWall_45 : decode cX9_faultOfWall 45 = .ok (.ifCond .eq 12, 3) := by decide +kernel
theorem dX9_faultOfWall_48 : decode cX9_faultOfWall 48 = .ok (.iload_n 1, 1) := by decide +kernel
theorem dX9_faultOfWall_49 : decode cX9_faultOfWall 49 = .ok (.ifCond .le 12, 3) := by decide +kernel
theorem dX9_faultOfWall_52 : decode cX9_faultOfWall 52 = .ok (.iload_n 2, 1) := by decide +kernel
theorem dX9_faultOfWall_53 : decode cX9_faultOfWall 53 = .ok (.iload_n 3, 1) := by decide +kernel
theorem dX9_faultOfWall_54 : decode cX9_faultOfWall 54 = .ok (.if_icmp .ge 7, 3) := by decide +kernel
theorem dX9_faultOfWall_57 : decode cX9_faultOfWall 57 = .ok (.iconst 1, 1) := by decide +kernel
theorem dX9_faultOfWall_58 : decode cX9_faultOfWall 58 = .ok (.goto 4, 3) := by decide +kernel
theorem dX9_faultOfWall_61 : decode cX9_faultOfWall 61 = .ok (.iconst 0, 1) := by decide +kernel
theorem dX9_faultOfWall_62 : decode cX9_faultOfWall 62 = .ok (.istore 7, 2) := by decide +kernel
theorem dX9_faultOfWall_64 : decode cX9_faultOfWall 64 = .ok (.iload 5, 2) := by decide +kernel
theorem dX9_faultOfWall_66 : decode cX9_faultOfWall 66 = .ok (.bipush 46, 2) := by decide +kernel
theorem dX9_faultOfWall_68 : decode cX9_faultOfWall 68 = .ok (.if_icmp .eq 15, 3) := by decide +kernel
theorem dX9_faultOfWall_71 : decode cX9_faultOfWall 71 = .ok (.iload 5, 2) := by decide +kernel
theorem dX9_faultOfWall_73 : decode cX9_faultOfWall 73 = .ok (.bipush 97, 2) := by decide +kernel
theorem dX9_faultOfWall_75 : decode cX9_faultOfWall 75 = .ok (.bipush 104, 2) := by decide +kernel
theorem dX9_faultOfWall_77 : decode cX9_faultOfWall 77 = .ok (.invokestatic 107, 3) := by decide +kernel
theorem dX9_faultOfWall_80 : decode cX9_faultOfWall 80 = .ok (.ifCond .eq 7, 3) := by decide +kernel
theorem dX9_faultOfWall_83 : decode cX9_faultOfWall 83 = .ok (.iconst 1, 1) := by decide +kernel
theorem dX9_faultOfWall_84 : decode cX9_faultOfWall 84 = .ok (.goto 4, 3) := by decide +kernel
theorem dX9_faultOfWall_87 : decode cX9_faultOfWall 87 = .ok (.iconst 0, 1) := by decide +kernel
theorem dX9_faultOfWall_88 : decode cX9_faultOfWall 88 = .ok (.istore 8, 2) := by decide +kernel
theorem dX9_faultOfWall_90 : decode cX9_faultOfWall 90 = .ok (.iload_n 1, 1) := by decide +kernel
theorem dX9_faultOfWall_91 : decode cX9_faultOfWall 91 = .ok (.iconst 5, 1) := by decide +kernel
theorem dX9_faultOfWall_92 : decode cX9_faultOfWall 92 = .ok (.if_icmp .eq 26, 3) := by decide +kernel
theorem dX9_faultOfWall_95 : decode cX9_faultOfWall 95 = .ok (.iload 6, 2) := by decide +kernel
theorem dX9_faultOfWall_97 : decode cX9_faultOfWall 97 = .ok (.ifCond .eq 11, 3) := by decide +kernel
theorem dX9_faultOfWall_100 : decode cX9_faultOfWall 100 = .ok (.iload 7, 2) := by decide +kernel
theorem dX9_faultOfWall_102 : decode cX9_faultOfWall 102 = .ok (.ifCond .eq 19, 3) := by decide +kernel
theorem dX9_faultOfWall_105 : decode cX9_faultOfWall 105 = .ok (.goto 13, 3) := by decide +kernel
theorem dX9_faultOfWall_108 : decode cX9_faultOfWall 108 = .ok (.iload 8, 2) := by decide +kernel
theorem dX9_faultOfWall_110 : decode cX9_faultOfWall 110 = .ok (.ifCond .eq 8, 3) := by decide +kernel
theorem dX9_faultOfWall_113 : decode cX9_faultOfWall 113 = .ok (.iload_n 2, 1) := by decide +kernel
theorem dX9_faultOfWall_114 : decode cX9_faultOfWall 114 = .ok (.iload_n 3, 1) := by decide +kernel
theorem dX9_faultOfWall_115 : decode cX9_faultOfWall 115 = .ok (.if_icmp .ne 6, 3) := by decide +kernel
theorem dX9_faultOfWall_118 : decode cX9_faultOfWall 118 = .ok (.iload 4, 2) := by decide +kernel
theorem dX9_faultOfWall_120 : decode cX9_faultOfWall 120 = .ok (.ireturn, 1) := by decide +kernel
theorem dX9_faultOfWall_121 : decode cX9_faultOfWall 121 = .ok (.iload 6, 2) := by decide +kernel
theorem dX9_faultOfWall_123 : decode cX9_faultOfWall 123 = .ok (.ifCond .eq 21, 3) := by decide +kernel
theorem dX9_faultOfWall_126 : decode cX9_faultOfWall 126 = .ok (.iload_n 1, 1) := by decide +kernel
theorem dX9_faultOfWall_127 : decode cX9_faultOfWall 127 = .ok (.ifCond .ne 7, 3) := by decide +kernel
theorem dX9_faultOfWall_130 : decode cX9_faultOfWall 130 = .ok (.iload_n 2, 1) := by decide +kernel
theorem dX9_faultOfWall_131 : decode cX9_faultOfWall 131 = .ok (.goto 4, 3) := by decide +kernel
theorem dX9_faultOfWall_134 : decode cX9_faultOfWall 134 = .ok (.iload_n 3, 1) := by decide +kernel
theorem dX9_faultOfWall_135 : decode cX9_faultOfWall 135 = .ok (.istore_n 3, 1) := by decide +kernel
theorem dX9_faultOfWall_136 : decode cX9_faultOfWall 136 = .ok (.iinc 1 1, 3) := by decide +kernel
theorem dX9_faultOfWall_139 : decode cX9_faultOfWall 139 = .ok (.iconst 0, 1) := by decide +kernel
theorem dX9_faultOfWall_140 : decode cX9_faultOfWall 140 = .ok (.istore_n 2, 1) := by decide +kernel
theorem dX9_faultOfWall_141 : decode cX9_faultOfWall 141 = .ok (.goto 33, 3) := by decide +kernel
theorem dX9_faultOfWall_144 : decode cX9_faultOfWall 144 = .ok (.aload_n 0, 1) := by decide +kernel
theorem dX9_faultOfWall_145 : decode cX9_faultOfWall 145 = .ok (.getfield 16, 3) := by decide +kernel
theorem dX9_faultOfWall_148 : decode cX9_faultOfWall 148 = .ok (.bipush 8, 2) := by decide +kernel
theorem dX9_faultOfWall_150 : decode cX9_faultOfWall 150 = .ok (.iload_n 1, 1) := by decide +kernel
theorem dX9_faultOfWall_151 : decode cX9_faultOfWall 151 = .ok (.imul, 1) := by decide +kernel
theorem dX9_faultOfWall_152 : decode cX9_faultOfWall 152 = .ok (.iload_n 2, 1) := by decide +kernel
theorem dX9_faultOfWall_153 : decode cX9_faultOfWall 153 = .ok (.iadd, 1) := by decide +kernel
theorem dX9_faultOfWall_154 : decode cX9_faultOfWall 154 = .ok (.iload 5, 2) := by decide +kernel
theorem dX9_faultOfWall_156 : decode cX9_faultOfWall 156 = .ok (.bipush 46, 2) := by decide +kernel
theorem dX9_faultOfWall_158 : decode cX9_faultOfWall 158 = .ok (.if_icmp .ne 7, 3) := by decide +kernel
theorem dX9_faultOfWall_161 : decode cX9_faultOfWall 161 = .ok (.iconst (-1), 1) := by decide +kernel
theorem dX9_faultOfWall_162 : decode cX9_faultOfWall 162 = .ok (.goto 8, 3) := by decide +kernel
theorem dX9_faultOfWall_165 : decode cX9_faultOfWall 165 = .ok (.iload 5, 2) := by decide +kernel
theorem dX9_faultOfWall_167 : decode cX9_faultOfWall 167 = .ok (.bipush 97, 2) := by decide +kernel
theorem dX9_faultOfWall_169 : decode cX9_faultOfWall 169 = .ok (.isub, 1) := by decide +kernel
theorem dX9_faultOfWall_170 : decode cX9_faultOfWall 170 = .ok (.iastore, 1) := by decide +kernel
theorem dX9_faultOfWall_171 : decode cX9_faultOfWall 171 = .ok (.iinc 2 1, 3) := by decide +kernel
theorem dX9_faultOfWall_174 : decode cX9_faultOfWall 174 = .ok (.iinc 4 1, 3) := by decide +kernel
theorem dX9_faultOfWall_177 : decode cX9_faultOfWall 177 = .ok (.goto (-167), 3) := by decide +kernel
theorem dX9_faultOfWall_180 : decode cX9_faultOfWall 180 = .ok (.aload_n 0, 1) := by decide +kernel
theorem dX9_faultOfWall_181 : decode cX9_faultOfWall 181 = .ok (.getfield 7, 3) := by decide +kernel
theorem dX9_faultOfWall_184 : decode cX9_faultOfWall 184 = .ok (.iconst 0, 1) := by decide +kernel
theorem dX9_faultOfWall_185 : decode cX9_faultOfWall 185 = .ok (.iaload, 1) := by decide +kernel
theorem dX9_faultOfWall_186 : decode cX9_faultOfWall 186 = .ok (.ifCond .le 23, 3) := by decide +kernel
theorem dX9_faultOfWall_189 : decode cX9_faultOfWall 189 = .ok (.iload_n 2, 1) := by decide +kernel
theorem dX9_faultOfWall_190 : decode cX9_faultOfWall 190 = .ok (.ifCond .eq 12, 3) := by decide +kernel
theorem dX9_faultOfWall_193 : decode cX9_faultOfWall 193 = .ok (.iload_n 1, 1) := by decide +kernel
theorem dX9_faultOfWall_194 : decode cX9_faultOfWall 194 = .ok (.ifCond .le 15, 3) := by decide +kernel
theorem dX9_faultOfWall_197 : decode cX9_faultOfWall 197 = .ok (.iload_n 2, 1) := by decide +kernel
theorem dX9_faultOfWall_198 : decode cX9_faultOfWall 198 = .ok (.iload_n 3, 1) := by decide +kernel
theorem dX9_faultOfWall_199 : decode cX9_faultOfWall 199 = .ok (.if_icmp .ge 10, 3) := by decide +kernel
theorem dX9_faultOfWall_202 : decode cX9_faultOfWall 202 = .ok (.aload_n 0, 1) := by decide +kernel
theorem dX9_faultOfWall_203 : decode cX9_faultOfWall 203 = .ok (.getfield 7, 3) := by decide +kernel
theorem dX9_faultOfWall_206 : decode cX9_faultOfWall 206 = .ok (.iconst 0, 1) := by decide +kernel
theorem dX9_faultOfWall_207 : decode cX9_faultOfWall 207 = .ok (.iaload, 1) := by decide +kernel
theorem dX9_faultOfWall_208 : decode cX9_faultOfWall 208 = .ok (.ireturn, 1) := by decide +kernel
theorem dX9_faultOfWall_209 : decode cX9_faultOfWall 209 = .ok (.aload_n 0, 1) := by decide +kernel
theorem dX9_faultOfWall_210 : decode cX9_faultOfWall 210 = .ok (.aload_n 0, 1) := by decide +kernel
theorem dX9_faultOfWall_211 : decode cX9_faultOfWall 211 = .ok (.getfield 7, 3) := by decide +kernel
theorem dX9_faultOfWall_214 : decode cX9_faultOfWall 214 = .ok (.iconst 0, 1) := by decide +kernel
theorem dX9_faultOfWall_215 : decode cX9_faultOfWall 215 = .ok (.iaload, 1) := by decide +kernel
theorem dX9_faultOfWall_216 : decode cX9_faultOfWall 216 = .ok (.ifCond .ne 7, 3) := by decide +kernel
theorem dX9_faultOfWall_219 : decode cX9_faultOfWall 219 = .ok (.iconst 0, 1) := by decide +kernel
theorem dX9_faultOfWall_220 : decode cX9_faultOfWall 220 = .ok (.goto 6, 3) := by decide +kernel
theorem dX9_faultOfWall_223 : decode cX9_faultOfWall 223 = .ok (.iload_n 1, 1) := by decide +kernel
theorem dX9_faultOfWall_224 : decode cX9_faultOfWall 224 = .ok (.iconst 1, 1) := by decide +kernel
theorem dX9_faultOfWall_225 : decode cX9_faultOfWall 225 = .ok (.iadd, 1) := by decide +kernel
theorem dX9_faultOfWall_226 : decode cX9_faultOfWall 226 = .ok (.putfield 118, 3) := by decide +kernel
theorem dX9_faultOfWall_229 : decode cX9_faultOfWall 229 = .ok (.aload_n 0, 1) := by decide +kernel
theorem dX9_faultOfWall_230 : decode cX9_faultOfWall 230 = .ok (.aload_n 0, 1) := by decide +kernel
theorem dX9_faultOfWall_231 : decode cX9_faultOfWall 231 = .ok (.getfield 7, 3) := by decide +kernel
theorem dX9_faultOfWall_234 : decode cX9_faultOfWall 234 = .ok (.iconst 0, 1) := by decide +kernel
theorem dX9_faultOfWall_235 : decode cX9_faultOfWall 235 = .ok (.iaload, 1) := by decide +kernel
theorem dX9_faultOfWall_236 : decode cX9_faultOfWall 236 = .ok (.ifCond .ne 7, 3) := by decide +kernel
theorem dX9_faultOfWall_239 : decode cX9_faultOfWall 239 = .ok (.iconst 0, 1) := by decide +kernel
theorem dX9_faultOfWall_240 : decode cX9_faultOfWall 240 = .ok (.goto 4, 3) := by decide +kernel
theorem dX9_faultOfWall_243 : decode cX9_faultOfWall 243 = .ok (.iload_n 2, 1) := by decide +kernel
theorem dX9_faultOfWall_244 : decode cX9_faultOfWall 244 = .ok (.putfield 121, 3) := by decide +kernel
theorem dX9_faultOfWall_247 : decode cX9_faultOfWall 247 = .ok (.iconst (-1), 1) := by decide +kernel
theorem dX9_faultOfWall_248 : decode cX9_faultOfWall 248 = .ok (.ireturn, 1) := by decide +kernel
theorem dX9_readsWall_0 : decode cX9_readsWall 0 = .ok (.aload_n 0, 1) := by decide +kernel
theorem dX9_readsWall_1 : decode cX9_readsWall 1 = .ok (.invokevirtual 124, 3) := by decide +kernel
theorem dX9_readsWall_4 : decode cX9_readsWall 4 = .ok (.aload_n 0, 1) := by decide +kernel
theorem dX9_readsWall_5 : decode cX9_readsWall 5 = .ok (.invokevirtual 127, 3) := by decide +kernel
theorem dX9_readsWall_8 : decode cX9_readsWall 8 = .ok (.istore_n 1, 1) := by decide +kernel
theorem dX9_readsWall_9 : decode cX9_readsWall 9 = .ok (.iload_n 1, 1) := by decide +kernel
theorem dX9_readsWall_10 : decode cX9_readsWall 10 = .ok (.iconst (-1), 1) := by decide +kernel
theorem dX9_readsWall_11 : decode cX9_readsWall 11 = .ok (.if_icmp .eq 7, 3) := by decide +kernel
theorem dX9_readsWall_14 : decode cX9_readsWall 14 = .ok (.aload_n 0, 1) := by decide +kernel
theorem dX9_readsWall_15 : decode cX9_readsWall 15 = .ok (.invokevirtual 124, 3) := by decide +kernel
theorem dX9_readsWall_18 : decode cX9_readsWall 18 = .ok (.iload_n 1, 1) := by decide +kernel
theorem dX9_readsWall_19 : decode cX9_readsWall 19 = .ok (.ireturn, 1) := by decide +kernel
theorem dX9_handByte_0 : decode cX9_handByte 0 = .ok (.iload_n 1, 1) := by decide +kernel
theorem dX9_handByte_1 : decode cX9_handByte 1 = .ok (.aload_n 0, 1) := by decide +kernel
theorem dX9_handByte_2 : decode cX9_handByte 2 = .ok (.getfield 7, 3) := by decide +kernel
theorem dX9_handByte_5 : decode cX9_handByte 5 = .ok (.iconst 1, 1) := by decide +kernel
theorem dX9_handByte_6 : decode cX9_handByte 6 = .ok (.iaload, 1) := by decide +kernel
theorem dX9_handByte_7 : decode cX9_handByte 7 = .ok (.if_icmp .ge 15, 3) := by decide +kernel
theorem dX9_handByte_10 : decode cX9_handByte 10 = .ok (.aload_n 0, 1) := by decide +kernel
theorem dX9_handByte_11 : decode cX9_handByte 11 = .ok (.getfield 13, 3) := by decide +kernel
theorem dX9_handByte_14 : decode cX9_handByte 14 = .ok (.bipush 44, 2) := by decide +kernel
theorem dX9_handByte_16 : decode cX9_handByte 16 = .ok (.iload_n 1, 1) := by decide +kernel
theorem dX9_handByte_17 : decode cX9_handByte 17 = .ok (.iadd, 1) := by decide +kernel
theorem dX9_handByte_18 : decode cX9_handByte 18 = .ok (.iaload, 1) := by decide +kernel
theorem dX9_handByte_19 : decode cX9_handByte 19 = .ok (.goto 4, 3) := by decide +kernel
theorem dX9_handByte_22 : decode cX9_handByte 22 = .ok (.iconst (-1), 1) := by decide +kernel
theorem dX9_handByte_23 : decode cX9_handByte 23 = .ok (.ireturn, 1) := by decide +kernel
theorem dX9_readsHand_0 : decode cX9_readsHand 0 = .ok (.aload_n 0, 1) := by decide +kernel
theorem dX9_readsHand_1 : decode cX9_readsHand 1 = .ok (.iload_n 2, 1) := by decide +kernel
theorem dX9_readsHand_2 : decode cX9_readsHand 2 = .ok (.invokevirtual 131, 3) := by decide +kernel
theorem dX9_readsHand_5 : decode cX9_readsHand 5 = .ok (.istore_n 3, 1) := by decide +kernel
theorem dX9_readsHand_6 : decode cX9_readsHand 6 = .ok (.iload_n 3, 1) := by decide +kernel
theorem dX9_readsHand_7 : decode cX9_readsHand 7 = .ok (.bipush 112, 2) := by decide +kernel
theorem dX9_readsHand_9 : decode cX9_readsHand 9 = .ok (.if_icmp .ne 7, 3) := by decide +kernel
theorem dX9_readsHand_12 : decode cX9_readsHand 12 = .ok (.iconst 0, 1) := by decide +kernel
theorem dX9_readsHand_13 : decode cX9_readsHand 13 = .ok (.goto 34, 3) := by decide +kernel
theorem dX9_readsHand_16 : decode cX9_readsHand 16 = .ok (.iload_n 3, 1) := by decide +kernel
theorem dX9_readsHand_17 : decode cX9_readsHand 17 = .ok (.bipush 116, 2) := by decide +kernel
theorem dX9_readsHand_19 : decode cX9_readsHand 19 = .ok (.if_icmp .ne 7, 3) := by decide +kernel
theorem dX9_readsHand_22 : decode cX9_readsHand 22 = .ok (.iconst 1, 1) := by decide +kernel
theorem dX9_readsHand_23 : decode cX9_readsHand 23 = .ok (.goto 24, 3) := by decide +kernel
theorem dX9_readsHand_26 : decode cX9_readsHand 26 = .ok (.iload_n 3, 1) := by decide +kernel
theorem dX9_readsHand_27 : decode cX9_readsHand 27 = .ok (.bipush 108, 2) := by decide +kernel
theorem dX9_readsHand_29 : decode cX9_readsHand 29 = .ok (.if_icmp .ne 7, 3) := by decide +kernel
theorem dX9_readsHand_32 : decode cX9_readsHand 32 = .ok (.iconst 2, 1) := by decide +kernel
theorem dX9_readsHand_33 : decode cX9_readsHand 33 = .ok (.goto 14, 3) := by decide +kernel
theorem dX9_readsHand_36 : decode cX9_readsHand 36 = .ok (.iload_n 3, 1) := by decide +kernel
theorem dX9_readsHand_37 : decode cX9_readsHand 37 = .ok (.bipush 115, 2) := by decide +kernel
theorem dX9_readsHand_39 : decode cX9_readsHand 39 = .ok (.if_icmp .ne 7, 3) := by decide +kernel
theorem dX9_readsHand_42 : decode cX9_readsHand 42 = .ok (.iconst 3, 1) := by decide +kernel
theorem dX9_readsHand_43 : decode cX9_readsHand 43 = .ok (.goto 4, 3) := by decide +kernel
theorem dX9_readsHand_46 : decode cX9_readsHand 46 = .ok (.iconst (-1), 1) := by decide +kernel
theorem dX9_readsHand_47 : decode cX9_readsHand 47 = .ok (.istore 4, 2) := by decide +kernel
theorem dX9_readsHand_49 : decode cX9_readsHand 49 = .ok (.aload_n 0, 1) := by decide +kernel
theorem dX9_readsHand_50 : decode cX9_readsHand 50 = .ok (.iload_n 2, 1) := by decide +kernel
theorem dX9_readsHand_51 : decode cX9_readsHand 51 = .ok (.iconst 1, 1) := by decide +kernel
theorem dX9_readsHand_52 : decode cX9_readsHand 52 = .ok (.iadd, 1) := by decide +kernel
theorem dX9_readsHand_53 : decode cX9_readsHand 53 = .ok (.invokevirtual 131, 3) := by decide +kernel
theorem dX9_readsHand_56 : decode cX9_readsHand 56 = .ok (.istore 5, 2) := by decide +kernel
theorem dX9_readsHand_58 : decode cX9_readsHand 58 = .ok (.iload_n 1, 1) := by decide +kernel
theorem dX9_readsHand_59 : decode cX9_readsHand 59 = .ok (.bipush 8, 2) := by decide +kernel
theorem dX9_readsHand_61 : decode cX9_readsHand 61 = .ok (.if_icmp .eq 9, 3) := by decide +kernel
theorem dX9_readsHand_64 : decode cX9_readsHand 64 = .ok (.iload 4, 2) := by decide +kernel
theorem dX9_readsHand_66 : decode cX9_readsHand 66 = .ok (.iconst (-1), 1) := by decide +kernel
theorem dX9_readsHand_67 : decode cX9_readsHand 67 = .ok (.if_icmp .ne 5, 3) := by decide +kernel
theorem dX9_readsHand_70 : decode cX9_readsHand 70 = .ok (.iconst 0, 1) := by decide +kernel
theorem dX9_readsHand_71 : decode cX9_readsHand 71 = .ok (.ireturn, 1) := by decide +kernel
theorem dX9_readsHand_72 : decode cX9_readsHand 72 = .ok (.iload 5, 2) := by decide +kernel
theorem dX9_readsHand_74 : decode cX9_readsHand 74 = .ok (.bipush 49, 2) := by decide +kernel
theorem dX9_readsHand_76 : decode cX9_readsHand 76 = .ok (.bipush 57, 2) := by decide +kernel
theorem dX9_readsHand_78 : decode cX9_readsHand 78 = .ok (.invokestatic 107, 3) := by decide +kernel
theorem dX9_readsHand_81 : decode cX9_readsHand 81 = .ok (.ifCond .ne 5, 3) := by decide +kernel
theorem dX9_readsHand_84 : decode cX9_readsHand 84 = .ok (.iconst 1, 1) := by decide +kernel
theorem dX9_readsHand_85 : decode cX9_readsHand 85 = .ok (.ireturn, 1) := by decide +kernel
theorem dX9_readsHand_86 : decode cX9_readsHand 86 = .ok (.aload_n 0, 1) := by decide +kernel
theorem dX9_readsHand_87 : decode cX9_readsHand 87 = .ok (.getfield 19, 3) := by decide +kernel
theorem dX9_readsHand_90 : decode cX9_readsHand 90 = .ok (.iload_n 1, 1) := by decide +kernel
theorem dX9_readsHand_91 : decode cX9_readsHand 91 = .ok (.iload 4, 2) := by decide +kernel
theorem dX9_readsHand_93 : decode cX9_readsHand 93 = .ok (.iastore, 1) := by decide +kernel
theorem dX9_readsHand_94 : decode cX9_readsHand 94 = .ok (.aload_n 0, 1) := by decide +kernel
theorem dX9_readsHand_95 : decode cX9_readsHand 95 = .ok (.getfield 22, 3) := by decide +kernel
theorem dX9_readsHand_98 : decode cX9_readsHand 98 = .ok (.iload_n 1, 1) := by decide +kernel
theorem dX9_readsHand_99 : decode cX9_readsHand 99 = .ok (.iload 5, 2) := by decide +kernel
theorem dX9_readsHand_101 : decode cX9_readsHand 101 = .ok (.bipush 48, 2) := by decide +kernel
theorem dX9_readsHand_103 : decode cX9_readsHand 103 = .ok (.isub, 1) := by decide +kernel
theorem dX9_readsHand_104 : decode cX9_readsHand 104 = .ok (.iastore, 1) := by decide +kernel
theorem dX9_readsHand_105 : decode cX9_readsHand 105 = .ok (.iconst 2, 1) := by decide +kernel
theorem dX9_readsHand_106 : decode cX9_readsHand 106 = .ok (.ireturn, 1) := by decide +kernel
theorem dX9_readsHands_0 : decode cX9_readsHands 0 = .ok (.iconst 0, 1) := by decide +kernel
theorem dX9_readsHands_1 : decode cX9_readsHands 1 = .ok (.istore_n 1, 1) := by decide +kernel
theorem dX9_readsHands_2 : decode cX9_readsHands 2 = .ok (.iconst 0, 1) := by decide +kernel
theorem dX9_readsHands_3 : decode cX9_readsHands 3 = .ok (.istore_n 2, 1) := by decide +kernel
theorem dX9_readsHands_4 : decode cX9_readsHands 4 = .ok (.aload_n 0, 1) := by decide +kernel
theorem dX9_readsHands_5 : decode cX9_readsHands 5 = .ok (.iconst 0, 1) := by decide +kernel
theorem dX9_readsHands_6 : decode cX9_readsHands 6 = .ok (.putfield 135, 3) := by decide +kernel
theorem dX9_readsHands_9 : decode cX9_readsHands 9 = .ok (.iload_n 2, 1) := by decide +kernel
theorem dX9_readsHands_10 : decode cX9_readsHands 10 = .ok (.aload_n 0, 1) := by decide +kernel
theorem dX9_readsHands_11 : decode cX9_readsHands 11 = .ok (.getfield 7, 3) := by decide +kernel
theorem dX9_readsHands_14 : decode cX9_readsHands 14 = .ok (.iconst 1, 1) := by decide +kernel
theorem dX9_readsHands_15 : decode cX9_readsHands 15 = .ok (.iaload, 1) := by decide +kernel
theorem dX9_readsHands_16 : decode cX9_readsHands 16 = .ok (.if_icmp .lt 7, 3) := by decide +kernel
theorem dX9_readsHands_19 : decode cX9_readsHands 19 = .ok (.iload_n 2, 1) := by decide +kernel
theorem dX9_readsHands_20 : decode cX9_readsHands 20 = .ok (.ifCond .le 60, 3) := by decide +kernel
theorem dX9_readsHands_23 : decode cX9_readsHands 23 = .ok (.aload_n 0, 1) := by decide +kernel
theorem dX9_readsHands_24 : decode cX9_readsHands 24 = .ok (.iload_n 1, 1) := by decide +kernel
theorem dX9_readsHands_25 : decode cX9_readsHands 25 = .ok (.iload_n 2, 1) := by decide +kernel
theorem dX9_readsHands_26 : decode cX9_readsHands 26 = .ok (.invokevirtual 138, 3) := by decide +kernel
theorem dX9_readsHands_29 : decode cX9_readsHands 29 = .ok (.istore_n 3, 1) := by decide +kernel
theorem dX9_readsHands_30 : decode cX9_readsHands 30 = .ok (.iload_n 3, 1) := by decide +kernel
theorem dX9_readsHands_31 : decode cX9_readsHands 31 = .ok (.iconst 2, 1) := by decide +kernel
theorem dX9_readsHands_32 : decode cX9_readsHands 32 = .ok (.if_icmp .ge 7, 3) := by decide +kernel
theorem dX9_readsHands_35 : decode cX9_readsHands 35 = .ok (.iload_n 2, 1) := by decide +kernel
theorem dX9_readsHands_36 : decode cX9_readsHands 36 = .ok (.iload_n 3, 1) := by decide +kernel
theorem dX9_readsHands_37 : decode cX9_readsHands 37 = .ok (.iadd, 1) := by decide +kernel
theorem dX9_readsHands_38 : decode cX9_readsHands 38 = .ok (.ireturn, 1) := by decide +kernel
theorem dX9_readsHands_39 : decode cX9_readsHands 39 = .ok (.iinc 1 1, 3) := by decide +kernel
theorem dX9_readsHands_42 : decode cX9_readsHands 42 = .ok (.iinc 2 2, 3) := by decide +kernel
theorem dX9_readsHands_45 : decode cX9_readsHands 45 = .ok (.iload_n 2, 1) := by decide +kernel
theorem dX9_readsHands_46 : decode cX9_readsHands 46 = .ok (.aload_n 0, 1) := by decide +kernel
theorem dX9_readsHands_47 : decode cX9_readsHands 47 = .ok (.getfield 7, 3) := by decide +kernel
theorem dX9_readsHands_50 : decode cX9_readsHands 50 = .ok (.iconst 1, 1) := by decide +kernel
theorem dX9_readsHands_51 : decode cX9_readsHands 51 = .ok (.iaload, 1) := by decide +kernel
theorem dX9_readsHands_52 : decode cX9_readsHands 52 = .ok (.if_icmp .ne 10, 3) := by decide +kernel
theorem dX9_readsHands_55 : decode cX9_readsHands 55 = .ok (.aload_n 0, 1) := by decide +kernel
theorem dX9_readsHands_56 : decode cX9_readsHands 56 = .ok (.iload_n 1, 1) := by decide +kernel
theorem dX9_readsHands_57 : decode cX9_readsHands 57 = .ok (.putfield 135, 3) := by decide +kernel
theorem dX9_readsHands_60 : decode cX9_readsHands 60 = .ok (.iconst (-1), 1) := by decide +kernel
theorem dX9_readsHands_61 : decode cX9_readsHands 61 = .ok (.ireturn, 1) := by decide +kernel
theorem dX9_readsHands_62 : decode cX9_readsHands 62 = .ok (.aload_n 0, 1) := by decide +kernel
theorem dX9_readsHands_63 : decode cX9_readsHands 63 = .ok (.iload_n 2, 1) := by decide +kernel
theorem dX9_readsHands_64 : decode cX9_readsHands 64 = .ok (.invokevirtual 131, 3) := by decide +kernel
theorem dX9_readsHands_67 : decode cX9_readsHands 67 = .ok (.bipush 59, 2) := by decide +kernel
theorem dX9_readsHands_69 : decode cX9_readsHands 69 = .ok (.if_icmp .eq 5, 3) := by decide +kernel
theorem dX9_readsHands_72 : decode cX9_readsHands 72 = .ok (.iload_n 2, 1) := by decide +kernel
theorem dX9_readsHands_73 : decode cX9_readsHands 73 = .ok (.ireturn, 1) := by decide +kernel
theorem dX9_readsHands_74 : decode cX9_readsHands 74 = .ok (.iinc 2 1, 3) := by decide +kernel
theorem dX9_readsHands_77 : decode cX9_readsHands 77 = .ok (.goto (-68), 3) := by decide +kernel
theorem dX9_readsHands_80 : decode cX9_readsHands 80 = .ok (.iconst (-1), 1) := by decide +kernel
theorem dX9_readsHands_81 : decode cX9_readsHands 81 = .ok (.ireturn, 1) := by decide +kernel
theorem dX9_faultOf_0 : decode cX9_faultOf 0 = .ok (.aload_n 0, 1) := by decide +kernel
theorem dX9_faultOf_1 : decode cX9_faultOf 1 = .ok (.invokevirtual 142, 3) := by decide +kernel
theorem dX9_faultOf_4 : decode cX9_faultOf 4 = .ok (.istore_n 2, 1) := by decide +kernel
theorem dX9_faultOf_5 : decode cX9_faultOf 5 = .ok (.aload_n 0, 1) := by decide +kernel
theorem dX9_faultOf_6 : decode cX9_faultOf 6 = .ok (.invokevirtual 145, 3) := by decide +kernel
theorem dX9_faultOf_9 : decode cX9_faultOf 9 = .ok (.istore_n 3, 1) := by decide +kernel
theorem dX9_faultOf_10 : decode cX9_faultOf 10 = .ok (.iload_n 1, 1) := by decide +kernel
theorem dX9_faultOf_11 : decode cX9_faultOf 11 = .ok (.ifCond .ne 7, 3) := by decide +kernel
theorem dX9_faultOf_14 : decode cX9_faultOf 14 = .ok (.iload_n 2, 1) := by decide +kernel
theorem dX9_faultOf_15 : decode cX9_faultOf 15 = .ok (.goto 4, 3) := by decide +kernel
theorem dX9_faultOf_18 : decode cX9_faultOf 18 = .ok (.iload_n 3, 1) := by decide +kernel
theorem dX9_faultOf_19 : decode cX9_faultOf 19 = .ok (.ireturn, 1) := by decide +kernel
theorem dX9_reads_0 : decode cX9_reads 0 = .ok (.aload_n 0, 1) := by decide +kernel
theorem dX9_reads_1 : decode cX9_reads 1 = .ok (.iconst 0, 1) := by decide +kernel
theorem dX9_reads_2 : decode cX9_reads 2 = .ok (.invokevirtual 148, 3) := by decide +kernel
theorem dX9_reads_5 : decode cX9_reads 5 = .ok (.istore_n 1, 1) := by decide +kernel
theorem dX9_reads_6 : decode cX9_reads 6 = .ok (.return_, 1) := by decide +kernel
theorem dX9_fault_0 : decode cX9_fault 0 = .ok (.iload_n 1, 1) := by decide +kernel
theorem dX9_fault_1 : decode cX9_fault 1 = .ok (.invokestatic 115, 3) := by decide +kernel
theorem dX9_fault_4 : decode cX9_fault 4 = .ok (.ifCond .eq 11, 3) := by decide +kernel
theorem dX9_fault_7 : decode cX9_fault 7 = .ok (.aload_n 0, 1) := by decide +kernel
theorem dX9_fault_8 : decode cX9_fault 8 = .ok (.iload_n 1, 1) := by decide +kernel
theorem dX9_fault_9 : decode cX9_fault 9 = .ok (.invokevirtual 148, 3) := by decide +kernel
theorem dX9_fault_12 : decode cX9_fault 12 = .ok (.goto 5, 3) := by decide +kernel
theorem dX9_fault_15 : decode cX9_fault 15 = .ok (.bipush (-2), 2) := by decide +kernel
theorem dX9_fault_17 : decode cX9_fault 17 = .ok (.ireturn, 1) := by decide +kernel
theorem dX9_isHand_0 : decode cX9_isHand 0 = .ok (.aload_n 0, 1) := by decide +kernel
theorem dX9_isHand_1 : decode cX9_isHand 1 = .ok (.invokevirtual 151, 3) := by decide +kernel
theorem dX9_isHand_4 : decode cX9_isHand 4 = .ok (.iload_n 1, 1) := by decide +kernel
theorem dX9_isHand_5 : decode cX9_isHand 5 = .ok (.iconst 0, 1) := by decide +kernel
theorem dX9_isHand_6 : decode cX9_isHand 6 = .ok (.aload_n 0, 1) := by decide +kernel
theorem dX9_isHand_7 : decode cX9_isHand 7 = .ok (.getfield 135, 3) := by decide +kernel
theorem dX9_isHand_10 : decode cX9_isHand 10 = .ok (.iconst 1, 1) := by decide +kernel
theorem dX9_isHand_11 : decode cX9_isHand 11 = .ok (.isub, 1) := by decide +kernel
theorem dX9_isHand_12 : decode cX9_isHand 12 = .ok (.invokestatic 107, 3) := by decide +kernel
theorem dX9_isHand_15 : decode cX9_isHand 15 = .ok (.ireturn, 1) := by decide +kernel
theorem dX9_stoneOf_0 : decode cX9_stoneOf 0 = .ok (.aload_n 0, 1) := by decide +kernel
theorem dX9_stoneOf_1 : decode cX9_stoneOf 1 = .ok (.invokevirtual 151, 3) := by decide +kernel
theorem dX9_stoneOf_4 : decode cX9_stoneOf 4 = .ok (.aload_n 0, 1) := by decide +kernel
theorem dX9_stoneOf_5 : decode cX9_stoneOf 5 = .ok (.getfield 16, 3) := by decide +kernel
theorem dX9_stoneOf_8 : decode cX9_stoneOf 8 = .ok (.iload_n 1, 1) := by decide +kernel
theorem dX9_stoneOf_9 : decode cX9_stoneOf 9 = .ok (.iaload, 1) := by decide +kernel
theorem dX9_stoneOf_10 : decode cX9_stoneOf 10 = .ok (.ireturn, 1) := by decide +kernel
theorem dX9_stone_0 : decode cX9_stone 0 = .ok (.iload_n 1, 1) := by decide +kernel
theorem dX9_stone_1 : decode cX9_stone 1 = .ok (.iload_n 2, 1) := by decide +kernel
theorem dX9_stone_2 : decode cX9_stone 2 = .ok (.invokestatic 154, 3) := by decide +kernel
theorem dX9_stone_5 : decode cX9_stone 5 = .ok (.ifCond .eq 16, 3) := by decide +kernel
theorem dX9_stone_8 : decode cX9_stone 8 = .ok (.aload_n 0, 1) := by decide +kernel
theorem dX9_stone_9 : decode cX9_stone 9 = .ok (.bipush 8, 2) := by decide +kernel
theorem dX9_stone_11 : decode cX9_stone 11 = .ok (.iload_n 1, 1) := by decide +kernel
theorem dX9_stone_12 : decode cX9_stone 12 = .ok (.imul, 1) := by decide +kernel
theorem dX9_stone_13 : decode cX9_stone 13 = .ok (.iload_n 2, 1) := by decide +kernel
theorem dX9_stone_14 : decode cX9_stone 14 = .ok (.iadd, 1) := by decide +kernel
theorem dX9_stone_15 : decode cX9_stone 15 = .ok (.invokevirtual 158, 3) := by decide +kernel
theorem dX9_stone_18 : decode cX9_stone 18 = .ok (.goto 5, 3) := by decide +kernel
theorem dX9_stone_21 : decode cX9_stone 21 = .ok (.bipush (-2), 2) := by decide +kernel
theorem dX9_stone_23 : decode cX9_stone 23 = .ok (.ireturn, 1) := by decide +kernel
theorem dX9_handOf_0 : decode cX9_handOf 0 = .ok (.iload_n 2, 1) := by decide +kernel
theorem dX9_handOf_1 : decode cX9_handOf 1 = .ok (.ifCond .ne 12, 3) := by decide +kernel
theorem dX9_handOf_4 : decode cX9_handOf 4 = .ok (.aload_n 0, 1) := by decide +kernel
theorem dX9_handOf_5 : decode cX9_handOf 5 = .ok (.getfield 19, 3) := by decide +kernel
theorem dX9_handOf_8 : decode cX9_handOf 8 = .ok (.iload_n 1, 1) := by decide +kernel
theorem dX9_handOf_9 : decode cX9_handOf 9 = .ok (.iaload, 1) := by decide +kernel
theorem dX9_handOf_10 : decode cX9_handOf 10 = .ok (.goto 9, 3) := by decide +kernel
theorem dX9_handOf_13 : decode cX9_handOf 13 = .ok (.aload_n 0, 1) := by decide +kernel
theorem dX9_handOf_14 : decode cX9_handOf 14 = .ok (.getfield 22, 3) := by decide +kernel
theorem dX9_handOf_17 : decode cX9_handOf 17 = .ok (.iload_n 1, 1) := by decide +kernel
theorem dX9_handOf_18 : decode cX9_handOf 18 = .ok (.iaload, 1) := by decide +kernel
theorem dX9_handOf_19 : decode cX9_handOf 19 = .ok (.ireturn, 1) := by decide +kernel
theorem dX9_hand_0 : decode cX9_hand 0 = .ok (.aload_n 0, 1) := by decide +kernel
theorem dX9_hand_1 : decode cX9_hand 1 = .ok (.iload_n 1, 1) := by decide +kernel
theorem dX9_hand_2 : decode cX9_hand 2 = .ok (.invokevirtual 161, 3) := by decide +kernel
theorem dX9_hand_5 : decode cX9_hand 5 = .ok (.ifCond .eq 21, 3) := by decide +kernel
theorem dX9_hand_8 : decode cX9_hand 8 = .ok (.iload_n 2, 1) := by decide +kernel
theorem dX9_hand_9 : decode cX9_hand 9 = .ok (.iconst 0, 1) := by decide +kernel
theorem dX9_hand_10 : decode cX9_hand 10 = .ok (.iconst 1, 1) := by decide +kernel
theorem dX9_hand_11 : decode cX9_hand 11 = .ok (.invokestatic 107, 3) := by decide +kernel
theorem dX9_hand_14 : decode cX9_hand 14 = .ok (.ifCond .eq 12, 3) := by decide +kernel
theorem dX9_hand_17 : decode cX9_hand 17 = .ok (.aload_n 0, 1) := by decide +kernel
theorem dX9_hand_18 : decode cX9_hand 18 = .ok (.iload_n 1, 1) := by decide +kernel
theorem dX9_hand_19 : decode cX9_hand 19 = .ok (.iload_n 2, 1) := by decide +kernel
theorem dX9_hand_20 : decode cX9_hand 20 = .ok (.invokevirtual 164, 3) := by decide +kernel
theorem dX9_hand_23 : decode cX9_hand 23 = .ok (.goto 5, 3) := by decide +kernel
theorem dX9_hand_26 : decode cX9_hand 26 = .ok (.bipush (-2), 2) := by decide +kernel
theorem dX9_hand_28 : decode cX9_hand 28 = .ok (.ireturn, 1) := by decide +kernel
theorem dX9_jump_0 : decode cX9_jump 0 = .ok (.iload_n 1, 1) := by decide +kernel
theorem dX9_jump_1 : decode cX9_jump 1 = .ok (.iconst 1, 1) := by decide +kernel
theorem dX9_jump_2 : decode cX9_jump 2 = .ok (.iconst 5, 1) := by decide +kernel
theorem dX9_jump_3 : decode cX9_jump 3 = .ok (.invokestatic 107, 3) := by decide +kernel
theorem dX9_jump_6 : decode cX9_jump 6 = .ok (.ifCond .ne 6, 3) := by decide +kernel
theorem dX9_jump_9 : decode cX9_jump 9 = .ok (.bipush (-2), 2) := by decide +kernel
theorem dX9_jump_11 : decode cX9_jump 11 = .ok (.ireturn, 1) := by decide +kernel
theorem dX9_jump_12 : decode cX9_jump 12 = .ok (.aload_n 0, 1) := by decide +kernel
theorem dX9_jump_13 : decode cX9_jump 13 = .ok (.getfield 101, 3) := by decide +kernel
theorem dX9_jump_16 : decode cX9_jump 16 = .ok (.istore_n 2, 1) := by decide +kernel
theorem dX9_jump_17 : decode cX9_jump 17 = .ok (.aload_n 0, 1) := by decide +kernel
theorem dX9_jump_18 : decode cX9_jump 18 = .ok (.iload_n 1, 1) := by decide +kernel
theorem dX9_jump_19 : decode cX9_jump 19 = .ok (.putfield 101, 3) := by decide +kernel
theorem dX9_jump_22 : decode cX9_jump 22 = .ok (.iload_n 2, 1) := by decide +kernel
theorem dX9_jump_23 : decode cX9_jump 23 = .ok (.ireturn, 1) := by decide +kernel
theorem dX9_frost_0 : decode cX9_frost 0 = .ok (.iload_n 1, 1) := by decide +kernel
theorem dX9_frost_1 : decode cX9_frost 1 = .ok (.invokestatic 167, 3) := by decide +kernel
theorem dX9_frost_4 : decode cX9_frost 4 = .ok (.ifCond .eq 13, 3) := by decide +kernel
theorem dX9_frost_7 : decode cX9_frost 7 = .ok (.iload_n 2, 1) := by decide +kernel
theorem dX9_frost_8 : decode cX9_frost 8 = .ok (.iconst 1, 1) := by decide +kernel
theorem dX9_frost_9 : decode cX9_frost 9 = .ok (.bipush 15, 2) := by decide +kernel
theorem dX9_frost_11 : decode cX9_frost 11 = .ok (.invokestatic 107, 3) := by decide +kernel
theorem dX9_frost_14 : decode cX9_frost 14 = .ok (.ifCond .ne 6, 3) := by decide +kernel
theorem dX9_frost_17 : decode cX9_frost 17 = .ok (.bipush (-2), 2) := by decide +kernel
theorem dX9_frost_19 : decode cX9_frost 19 = .ok (.ireturn, 1) := by decide +kernel
theorem dX9_frost_20 : decode cX9_frost 20 = .ok (.aload_n 0, 1) := by decide +kernel
theorem dX9_frost_21 : decode cX9_frost 21 = .ok (.getfield 170, 3) := by decide +kernel
theorem dX9_frost_24 : decode cX9_frost 24 = .ok (.bipush 6, 2) := by decide +kernel
theorem dX9_frost_26 : decode cX9_frost 26 = .ok (.if_icmp .ne 6, 3) := by decide +kernel
theorem dX9_frost_29 : decode cX9_frost 29 = .ok (.bipush (-4), 2) := by decide +kernel
theorem dX9_frost_31 : decode cX9_frost 31 = .ok (.ireturn, 1) := by decide +kernel
theorem dX9_frost_32 : decode cX9_frost 32 = .ok (.aload_n 0, 1) := by decide +kernel
theorem dX9_frost_33 : decode cX9_frost 33 = .ok (.getfield 25, 3) := by decide +kernel
theorem dX9_frost_36 : decode cX9_frost 36 = .ok (.aload_n 0, 1) := by decide +kernel
theorem dX9_frost_37 : decode cX9_frost 37 = .ok (.getfield 170, 3) := by decide +kernel
theorem dX9_frost_40 : decode cX9_frost 40 = .ok (.iload_n 1, 1) := by decide +kernel
theorem dX9_frost_41 : decode cX9_frost 41 = .ok (.iastore, 1) := by decide +kernel
theorem dX9_frost_42 : decode cX9_frost 42 = .ok (.aload_n 0, 1) := by decide +kernel
theorem dX9_frost_43 : decode cX9_frost 43 = .ok (.getfield 28, 3) := by decide +kernel
theorem dX9_frost_46 : decode cX9_frost 46 = .ok (.aload_n 0, 1) := by decide +kernel
theorem dX9_frost_47 : decode cX9_frost 47 = .ok (.getfield 170, 3) := by decide +kernel
theorem dX9_frost_50 : decode cX9_frost 50 = .ok (.iload_n 2, 1) := by decide +kernel
theorem dX9_frost_51 : decode cX9_frost 51 = .ok (.iastore, 1) := by decide +kernel
theorem dX9_frost_52 : decode cX9_frost 52 = .ok (.aload_n 0, 1) := by decide +kernel
theorem dX9_frost_53 : decode cX9_frost 53 = .ok (.dup, 1) := by decide +kernel
theorem dX9_frost_54 : decode cX9_frost 54 = .ok (.getfield 170, 3) := by decide +kernel
theorem dX9_frost_57 : decode cX9_frost 57 = .ok (.iconst 1, 1) := by decide +kernel
theorem dX9_frost_58 : decode cX9_frost 58 = .ok (.iadd, 1) := by decide +kernel
theorem dX9_frost_59 : decode cX9_frost 59 = .ok (.putfield 170, 3) := by decide +kernel
theorem dX9_frost_62 : decode cX9_frost 62 = .ok (.aload_n 0, 1) := by decide +kernel
theorem dX9_frost_63 : decode cX9_frost 63 = .ok (.getfield 170, 3) := by decide +kernel
theorem dX9_frost_66 : decode cX9_frost 66 = .ok (.ireturn, 1) := by decide +kernel
theorem dX9_gapping_0 : decode cX9_gapping 0 = .ok (.iload_n 1, 1) := by decide +kernel
theorem dX9_gapping_1 : decode cX9_gapping 1 = .ok (.invokestatic 167, 3) := by decide +kernel
theorem dX9_gapping_4 : decode cX9_gapping 4 = .ok (.ifCond .eq 17, 3) := by decide +kernel
theorem dX9_gapping_7 : decode cX9_gapping 7 = .ok (.iload_n 2, 1) := by decide +kernel
theorem dX9_gapping_8 : decode cX9_gapping 8 = .ok (.invokestatic 111, 3) := by decide +kernel
theorem dX9_gapping_11 : decode cX9_gapping 11 = .ok (.ifCond .eq 10, 3) := by decide +kernel
theorem dX9_gapping_14 : decode cX9_gapping 14 = .ok (.iload_n 3, 1) := by decide +kernel
theorem dX9_gapping_15 : decode cX9_gapping 15 = .ok (.invokestatic 111, 3) := by decide +kernel
theorem dX9_gapping_18 : decode cX9_gapping 18 = .ok (.ifCond .ne 6, 3) := by decide +kernel
theorem dX9_gapping_21 : decode cX9_gapping 21 = .ok (.bipush (-2), 2) := by decide +kernel
theorem dX9_gapping_23 : decode cX9_gapping 23 = .ok (.ireturn, 1) := by decide +kernel
theorem dX9_gapping_24 : decode cX9_gapping 24 = .ok (.aload_n 0, 1) := by decide +kernel
theorem dX9_gapping_25 : decode cX9_gapping 25 = .ok (.getfield 173, 3) := by decide +kernel
theorem dX9_gapping_28 : decode cX9_gapping 28 = .ok (.bipush 6, 2) := by decide +kernel
theorem dX9_gapping_30 : decode cX9_gapping 30 = .ok (.if_icmp .ne 6, 3) := by decide +kernel
theorem dX9_gapping_33 : decode cX9_gapping 33 = .ok (.bipush (-4), 2) := by decide +kernel
theorem dX9_gapping_35 : decode cX9_gapping 35 = .ok (.ireturn, 1) := by decide +kernel
theorem dX9_gapping_36 : decode cX9_gapping 36 = .ok (.aload_n 0, 1) := by decide +kernel
theorem dX9_gapping_37 : decode cX9_gapping 37 = .ok (.getfield 31, 3) := by decide +kernel
theorem dX9_gapping_40 : decode cX9_gapping 40 = .ok (.aload_n 0, 1) := by decide +kernel
theorem dX9_gapping_41 : decode cX9_gapping 41 = .ok (.getfield 173, 3) := by decide +kernel
theorem dX9_gapping_44 : decode cX9_gapping 44 = .ok (.iload_n 1, 1) := by decide +kernel
theorem dX9_gapping_45 : decode cX9_gapping 45 = .ok (.iastore, 1) := by decide +kernel
theorem dX9_gapping_46 : decode cX9_gapping 46 = .ok (.aload_n 0, 1) := by decide +kernel
theorem dX9_gapping_47 : decode cX9_gapping 47 = .ok (.getfield 34, 3) := by decide +kernel
theorem dX9_gapping_50 : decode cX9_gapping 50 = .ok (.aload_n 0, 1) := by decide +kernel
theorem dX9_gapping_51 : decode cX9_gapping 51 = .ok (.getfield 173, 3) := by decide +kernel
theorem dX9_gapping_54 : decode cX9_gapping 54 = .ok (.iload_n 2, 1) := by decide +kernel
theorem dX9_gapping_55 : decode cX9_gapping 55 = .ok (.iastore, 1) := by decide +kernel
theorem dX9_gapping_56 : decode cX9_gapping 56 = .ok (.aload_n 0, 1) := by decide +kernel
theorem dX9_gapping_57 : decode cX9_gapping 57 = .ok (.getfield 37, 3) := by decide +kernel
theorem dX9_gapping_60 : decode cX9_gapping 60 = .ok (.aload_n 0, 1) := by decide +kernel
theorem dX9_gapping_61 : decode cX9_gapping 61 = .ok (.getfield 173, 3) := by decide +kernel
theorem dX9_gapping_64 : decode cX9_gapping 64 = .ok (.iload_n 3, 1) := by decide +kernel
theorem dX9_gapping_65 : decode cX9_gapping 65 = .ok (.iastore, 1) := by decide +kernel
theorem dX9_gapping_66 : decode cX9_gapping 66 = .ok (.aload_n 0, 1) := by decide +kernel
theorem dX9_gapping_67 : decode cX9_gapping 67 = .ok (.dup, 1) := by decide +kernel
theorem dX9_gapping_68 : decode cX9_gapping 68 = .ok (.getfield 173, 3) := by decide +kernel
theorem dX9_gapping_71 : decode cX9_gapping 71 = .ok (.iconst 1, 1) := by decide +kernel
theorem dX9_gapping_72 : decode cX9_gapping 72 = .ok (.iadd, 1) := by decide +kernel
theorem dX9_gapping_73 : decode cX9_gapping 73 = .ok (.putfield 173, 3) := by decide +kernel
theorem dX9_gapping_76 : decode cX9_gapping 76 = .ok (.aload_n 0, 1) := by decide +kernel
theorem dX9_gapping_77 : decode cX9_gapping 77 = .ok (.getfield 173, 3) := by decide +kernel
theorem dX9_gapping_80 : decode cX9_gapping 80 = .ok (.ireturn, 1) := by decide +kernel
theorem dX9_back_0 : decode cX9_back 0 = .ok (.iload_n 1, 1) := by decide +kernel
theorem dX9_back_1 : decode cX9_back 1 = .ok (.iconst 0, 1) := by decide +kernel
theorem dX9_back_2 : decode cX9_back 2 = .ok (.iconst 1, 1) := by decide +kernel
theorem dX9_back_3 : decode cX9_back 3 = .ok (.invokestatic 107, 3) := by decide +kernel
theorem dX9_back_6 : decode cX9_back 6 = .ok (.ifCond .ne 6, 3) := by decide +kernel
theorem dX9_back_9 : decode cX9_back 9 = .ok (.bipush (-2), 2) := by decide +kernel
theorem dX9_back_11 : decode cX9_back 11 = .ok (.ireturn, 1) := by decide +kernel
theorem dX9_back_12 : decode cX9_back 12 = .ok (.iload_n 1, 1) := by decide +kernel
theorem dX9_back_13 : decode cX9_back 13 = .ok (.ifCond .ne 10, 3) := by decide +kernel
theorem dX9_back_16 : decode cX9_back 16 = .ok (.aload_n 0, 1) := by decide +kernel
theorem dX9_back_17 : decode cX9_back 17 = .ok (.getfield 170, 3) := by decide +kernel
theorem dX9_back_20 : decode cX9_back 20 = .ok (.goto 7, 3) := by decide +kernel
theorem dX9_back_23 : decode cX9_back 23 = .ok (.aload_n 0, 1) := by decide +kernel
theorem dX9_back_24 : decode cX9_back 24 = .ok (.getfield 173, 3) := by decide +kernel
theorem dX9_back_27 : decode cX9_back 27 = .ok (.istore_n 2, 1) := by decide +kernel
theorem dX9_back_28 : decode cX9_back 28 = .ok (.iload_n 2, 1) := by decide +kernel
