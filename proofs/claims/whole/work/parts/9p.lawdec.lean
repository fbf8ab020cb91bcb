/-! THE LAW: its instructions -/
def cLw : ByteArray := code
theorem dL_0 : decode code 0 = .ok (.new 7, 3) := by decide +kernel
theorem dL_3 : decode code 3 = .ok (.dup, 1) := by decide +kernel
theorem dL_4 : decode code 4 = .ok (.invokespecial 9, 3) := by decide +kernel
theorem dL_7 : decode code 7 = .ok (.astore_n 1, 1) := by decide +kernel
theorem dL_8 : decode code 8 = .ok (.new 10, 3) := by decide +kernel
theorem dL_11 : decode code 11 = .ok (.dup, 1) := by decide +kernel
theorem dL_12 : decode code 12 = .ok (.invokespecial 12, 3) := by decide +kernel
theorem dL_15 : decode code 15 = .ok (.astore_n 2, 1) := by decide +kernel
theorem dL_16 : decode code 16 = .ok (.iconst 0, 1) := by decide +kernel
theorem dL_17 : decode code 17 = .ok (.istore_n 3, 1) := by decide +kernel
theorem dL_18 : decode code 18 = .ok (.iload_n 3, 1) := by decide +kernel
theorem dL_19 : decode code 19 = .ok (.aload_n 0, 1) := by decide +kernel
theorem dL_20 : decode code 20 = .ok (.arraylength, 1) := by decide +kernel
theorem dL_21 : decode code 21 = .ok (.bipush 6, 2) := by decide +kernel
theorem dL_23 : decode code 23 = .ok (.isub, 1) := by decide +kernel
theorem dL_24 : decode code 24 = .ok (.if_icmp .gt 1163, 3) := by decide +kernel
theorem dL_27 : decode code 27 = .ok (.aload_n 0, 1) := by decide +kernel
theorem dL_28 : decode code 28 = .ok (.iload_n 3, 1) := by decide +kernel
theorem dL_29 : decode code 29 = .ok (.iaload, 1) := by decide +kernel
theorem dL_30 : decode code 30 = .ok (.bipush 63, 2) := by decide +kernel
theorem dL_32 : decode code 32 = .ok (.iand, 1) := by decide +kernel
theorem dL_33 : decode code 33 = .ok (.tableswitch 1148 0 33 #[151, 174, 207, 230, 279, 302, 315, 328, 391, 414, 437, 460, 493, 526, 559, 582, 651, 684, 743, 786, 819, 842, 865, 898, 921, 944, 977, 1000, 1013, 1037, 1050, 1073, 1086, 1125], 151) := by decide +kernel
theorem dL_184 : decode code 184 = .ok (.aload_n 1, 1) := by decide +kernel
theorem dL_185 : decode code 185 = .ok (.aload_n 0, 1) := by decide +kernel
theorem dL_186 : decode code 186 = .ok (.iload_n 3, 1) := by decide +kernel
theorem dL_187 : decode code 187 = .ok (.iconst 1, 1) := by decide +kernel
theorem dL_188 : decode code 188 = .ok (.iadd, 1) := by decide +kernel
theorem dL_189 : decode code 189 = .ok (.iaload, 1) := by decide +kernel
theorem dL_190 : decode code 190 = .ok (.invokevirtual 13, 3) := by decide +kernel
theorem dL_193 : decode code 193 = .ok (.aload_n 2, 1) := by decide +kernel
theorem dL_194 : decode code 194 = .ok (.aload_n 0, 1) := by decide +kernel
theorem dL_195 : decode code 195 = .ok (.iload_n 3, 1) := by decide +kernel
theorem dL_196 : decode code 196 = .ok (.iconst 1, 1) := by decide +kernel
theorem dL_197 : decode code 197 = .ok (.iadd, 1) := by decide +kernel
theorem dL_198 : decode code 198 = .ok (.iaload, 1) := by decide +kernel
theorem dL_199 : decode code 199 = .ok (.invokevirtual 17, 3) := by decide +kernel
theorem dL_202 : decode code 202 = .ok (.if_icmp .eq 979, 3) := by decide +kernel
theorem dL_205 : decode code 205 = .ok (.iconst 0, 1) := by decide +kernel
theorem dL_206 : decode code 206 = .ok (.ireturn, 1) := by decide +kernel
theorem dL_207 : decode code 207 = .ok (.aload_n 1, 1) := by decide +kernel
theorem dL_208 : decode code 208 = .ok (.aload_n 0, 1) := by decide +kernel
theorem dL_209 : decode code 209 = .ok (.iload_n 3, 1) := by decide +kernel
theorem dL_210 : decode code 210 = .ok (.iconst 1, 1) := by decide +kernel
theorem dL_211 : decode code 211 = .ok (.iadd, 1) := by decide +kernel
theorem dL_212 : decode code 212 = .ok (.iaload, 1) := by decide +kernel
theorem dL_213 : decode code 213 = .ok (.aload_n 0, 1) := by decide +kernel
theorem dL_214 : decode code 214 = .ok (.iload_n 3, 1) := by decide +kernel
theorem dL_215 : decode code 215 = .ok (.iconst 2, 1) := by decide +kernel
theorem dL_216 : decode code 216 = .ok (.iadd, 1) := by decide +kernel
theorem dL_217 : decode code 217 = .ok (.iaload, 1) := by decide +kernel
theorem dL_218 : decode code 218 = .ok (.invokevirtual 18, 3) := by decide +kernel
theorem dL_221 : decode code 221 = .ok (.aload_n 2, 1) := by decide +kernel
theorem dL_222 : decode code 222 = .ok (.aload_n 0, 1) := by decide +kernel
theorem dL_223 : decode code 223 = .ok (.iload_n 3, 1) := by decide +kernel
theorem dL_224 : decode code 224 = .ok (.iconst 1, 1) := by decide +kernel
theorem dL_225 : decode code 225 = .ok (.iadd, 1) := by decide +kernel
theorem dL_226 : decode code 226 = .ok (.iaload, 1) := by decide +kernel
theorem dL_227 : decode code 227 = .ok (.aload_n 0, 1) := by decide +kernel
theorem dL_228 : decode code 228 = .ok (.iload_n 3, 1) := by decide +kernel
theorem dL_229 : decode code 229 = .ok (.iconst 2, 1) := by decide +kernel
theorem dL_230 : decode code 230 = .ok (.iadd, 1) := by decide +kernel
theorem dL_231 : decode code 231 = .ok (.iaload, 1) := by decide +kernel
theorem dL_232 : decode code 232 = .ok (.invokevirtual 22, 3) := by decide +kernel
theorem dL_235 : decode code 235 = .ok (.if_icmp .eq 946, 3) := by decide +kernel
theorem dL_238 : decode code 238 = .ok (.iconst 0, 1) := by decide +kernel
theorem dL_239 : decode code 239 = .ok (.ireturn, 1) := by decide +kernel
theorem dL_240 : decode code 240 = .ok (.aload_n 1, 1) := by decide +kernel
theorem dL_241 : decode code 241 = .ok (.aload_n 0, 1) := by decide +kernel
theorem dL_242 : decode code 242 = .ok (.iload_n 3, 1) := by decide +kernel
theorem dL_243 : decode code 243 = .ok (.iconst 1, 1) := by decide +kernel
theorem dL_244 : decode code 244 = .ok (.iadd, 1) := by decide +kernel
theorem dL_245 : decode code 245 = .ok (.iaload, 1) := by decide +kernel
theorem dL_246 : decode code 246 = .ok (.invokevirtual 23, 3) := by decide +kernel
theorem dL_249 : decode code 249 = .ok (.aload_n 2, 1) := by decide +kernel
theorem dL_250 : decode code 250 = .ok (.aload_n 0, 1) := by decide +kernel
theorem dL_251 : decode code 251 = .ok (.iload_n 3, 1) := by decide +kernel
theorem dL_252 : decode code 252 = .ok (.iconst 1, 1) := by decide +kernel
theorem dL_253 : decode code 253 = .ok (.iadd, 1) := by decide +kernel
theorem dL_254 : decode code 254 = .ok (.iaload, 1) := by decide +kernel
theorem dL_255 : decode code 255 = .ok (.invokevirtual 27, 3) := by decide +kernel
theorem dL_258 : decode code 258 = .ok (.if_icmp .eq 923, 3) := by decide +kernel
theorem dL_261 : decode code 261 = .ok (.iconst 0, 1) := by decide +kernel
theorem dL_262 : decode code 262 = .ok (.ireturn, 1) := by decide +kernel
theorem dL_263 : decode code 263 = .ok (.aload_n 1, 1) := by decide +kernel
theorem dL_264 : decode code 264 = .ok (.aload_n 0, 1) := by decide +kernel
theorem dL_265 : decode code 265 = .ok (.iload_n 3, 1) := by decide +kernel
theorem dL_266 : decode code 266 = .ok (.iconst 1, 1) := by decide +kernel
theorem dL_267 : decode code 267 = .ok (.iadd, 1) := by decide +kernel
theorem dL_268 : decode code 268 = .ok (.iaload, 1) := by decide +kernel
theorem dL_269 : decode code 269 = .ok (.ifCond .eq 7, 3) := by decide +kernel
theorem dL_272 : decode code 272 = .ok (.iconst 1, 1) := by decide +kernel
theorem dL_273 : decode code 273 = .ok (.goto 4, 3) := by decide +kernel
theorem dL_276 : decode code 276 = .ok (.iconst 0, 1) := by decide +kernel
theorem dL_277 : decode code 277 = .ok (.aload_n 0, 1) := by decide +kernel
theorem dL_278 : decode code 278 = .ok (.iload_n 3, 1) := by decide +kernel
theorem dL_279 : decode code 279 = .ok (.iconst 2, 1) := by decide +kernel
theorem dL_280 : decode code 280 = .ok (.iadd, 1) := by decide +kernel
theorem dL_281 : decode code 281 = .ok (.iaload, 1) := by decide +kernel
theorem dL_282 : decode code 282 = .ok (.invokevirtual 28, 3) := by decide +kernel
theorem dL_285 : decode code 285 = .ok (.aload_n 2, 1) := by decide +kernel
theorem dL_286 : decode code 286 = .ok (.aload_n 0, 1) := by decide +kernel
theorem dL_287 : decode code 287 = .ok (.iload_n 3, 1) := by decide +kernel
theorem dL_288 : decode code 288 = .ok (.iconst 1, 1) := by decide +kernel
theorem dL_289 : decode code 289 = .ok (.iadd, 1) := by decide +kernel
theorem dL_290 : decode code 290 = .ok (.iaload, 1) := by decide +kernel
theorem dL_291 : decode code 291 = .ok (.ifCond .eq 7, 3) := by decide +kernel
theorem dL_294 : decode code 294 = .ok (.iconst 1, 1) := by decide +kernel
theorem dL_295 : decode code 295 = .ok (.goto 4, 3) := by decide +kernel
theorem dL_298 : decode code 298 = .ok (.iconst 0, 1) := by decide +kernel
theorem dL_299 : decode code 299 = .ok (.aload_n 0, 1) := by decide +kernel
theorem dL_300 : decode code 300 = .ok (.iload_n 3, 1) := by decide +kernel
theorem dL_301 : decode code 301 = .ok (.iconst 2, 1) := by decide +kernel
theorem dL_302 : decode code 302 = .ok (.iadd, 1) := by decide +kernel
theorem dL_303 : decode code 303 = .ok (.iaload, 1) := by decide +kernel
theorem dL_304 : decode code 304 = .ok (.invokevirtual 32, 3) := by decide +kernel
theorem dL_307 : decode code 307 = .ok (.if_icmp .eq 874, 3) := by decide +kernel
theorem dL_310 : decode code 310 = .ok (.iconst 0, 1) := by decide +kernel
theorem dL_311 : decode code 311 = .ok (.ireturn, 1) := by decide +kernel
theorem dL_312 : decode code 312 = .ok (.aload_n 1, 1) := by decide +kernel
theorem dL_313 : decode code 313 = .ok (.aload_n 0, 1) := by decide +kernel
theorem dL_314 : decode code 314 = .ok (.iload_n 3, 1) := by decide +kernel
theorem dL_315 : decode code 315 = .ok (.iconst 1, 1) := by decide +kernel
theorem dL_316 : decode code 316 = .ok (.iadd, 1) := by decide +kernel
theorem dL_317 : decode code 317 = .ok (.iaload, 1) := by decide +kernel
theorem dL_318 : decode code 318 = .ok (.invokevirtual 33, 3) := by decide +kernel
theorem dL_321 : decode code 321 = .ok (.aload_n 2, 1) := by decide +kernel
theorem dL_322 : decode code 322 = .ok (.aload_n 0, 1) := by decide +kernel
theorem dL_323 : decode code 323 = .ok (.iload_n 3, 1) := by decide +kernel
theorem dL_324 : decode code 324 = .ok (.iconst 1, 1) := by decide +kernel
theorem dL_325 : decode code 325 = .ok (.iadd, 1) := by decide +kernel
theorem dL_326 : decode code 326 = .ok (.iaload, 1) := by decide +kernel
theorem dL_327 : decode code 327 = .ok (.invokevirtual 36, 3) := by decide +kernel
theorem dL_330 : decode code 330 = .ok (.if_icmp .eq 851, 3) := by decide +kernel
theorem dL_333 : decode code 333 = .ok (.iconst 0, 1) := by decide +kernel
theorem dL_334 : decode code 334 = .ok (.ireturn, 1) := by decide +kernel
theorem dL_335 : decode code 335 = .ok (.aload_n 1, 1) := by decide +kernel
theorem dL_336 : decode code 336 = .ok (.invokevirtual 37, 3) := by decide +kernel
theorem dL_339 : decode code 339 = .ok (.aload_n 2, 1) := by decide +kernel
theorem dL_340 : decode code 340 = .ok (.invokevirtual 41, 3) := by decide +kernel
theorem dL_343 : decode code 343 = .ok (.if_icmp .eq 838, 3) := by decide +kernel
theorem dL_346 : decode code 346 = .ok (.iconst 0, 1) := by decide +kernel
theorem dL_347 : decode code 347 = .ok (.ireturn, 1) := by decide +kernel
theorem dL_348 : decode code 348 = .ok (.aload_n 1, 1) := by decide +kernel
theorem dL_349 : decode code 349 = .ok (.invokevirtual 42, 3) := by decide +kernel
theorem dL_352 : decode code 352 = .ok (.aload_n 2, 1) := by decide +kernel
theorem dL_353 : decode code 353 = .ok (.invokevirtual 45, 3) := by decide +kernel
theorem dL_356 : decode code 356 = .ok (.if_icmp .eq 825, 3) := by decide +kernel
theorem dL_359 : decode code 359 = .ok (.iconst 0, 1) := by decide +kernel
theorem dL_360 : decode code 360 = .ok (.ireturn, 1) := by decide +kernel
theorem dL_361 : decode code 361 = .ok (.aload_n 1, 1) := by decide +kernel
theorem dL_362 : decode code 362 = .ok (.aload_n 0, 1) := by decide +kernel
theorem dL_363 : decode code 363 = .ok (.iload_n 3, 1) := by decide +kernel
theorem dL_364 : decode code 364 = .ok (.iconst 1, 1) := by decide +kernel
theorem dL_365 : decode code 365 = .ok (.iadd, 1) := by decide +kernel
theorem dL_366 : decode code 366 = .ok (.iaload, 1) := by decide +kernel
theorem dL_367 : decode code 367 = .ok (.aload_n 0, 1) := by decide +kernel
theorem dL_368 : decode code 368 = .ok (.iload_n 3, 1) := by decide +kernel
theorem dL_369 : decode code 369 = .ok (.iconst 2, 1) := by decide +kernel
theorem dL_370 : decode code 370 = .ok (.iadd, 1) := by decide +kernel
theorem dL_371 : decode code 371 = .ok (.iaload, 1) := by decide +kernel
theorem dL_372 : decode code 372 = .ok (.aload_n 0, 1) := by decide +kernel
theorem dL_373 : decode code 373 = .ok (.iload_n 3, 1) := by decide +kernel
theorem dL_374 : decode code 374 = .ok (.iconst 3, 1) := by decide +kernel
theorem dL_375 : decode code 375 = .ok (.iadd, 1) := by decide +kernel
theorem dL_376 : decode code 376 = .ok (.iaload, 1) := by decide +kernel
theorem dL_377 : decode code 377 = .ok (.aload_n 0, 1) := by decide +kernel
theorem dL_378 : decode code 378 = .ok (.iload_n 3, 1) := by decide +kernel
theorem dL_379 : decode code 379 = .ok (.iconst 4, 1) := by decide +kernel
theorem dL_380 : decode code 380 = .ok (.iadd, 1) := by decide +kernel
theorem dL_381 : decode code 381 = .ok (.iaload, 1) := by decide +kernel
theorem dL_382 : decode code 382 = .ok (.aload_n 0, 1) := by decide +kernel
theorem dL_383 : decode code 383 = .ok (.iload_n 3, 1) := by decide +kernel
theorem dL_384 : decode code 384 = .ok (.iconst 5, 1) := by decide +kernel
theorem dL_385 : decode code 385 = .ok (.iadd, 1) := by decide +kernel
theorem dL_386 : decode code 386 = .ok (.iaload, 1) := by decide +kernel
theorem dL_387 : decode code 387 = .ok (.invokevirtual 46, 3) := by decide +kernel
theorem dL_390 : decode code 390 = .ok (.aload_n 2, 1) := by decide +kernel
theorem dL_391 : decode code 391 = .ok (.aload_n 0, 1) := by decide +kernel
theorem dL_392 : decode code 392 = .ok (.iload_n 3, 1) := by decide +kernel
theorem dL_393 : decode code 393 = .ok (.iconst 1, 1) := by decide +kernel
theorem dL_394 : decode code 394 = .ok (.iadd, 1) := by decide +kernel
theorem dL_395 : decode code 395 = .ok (.iaload, 1) := by decide +kernel
theorem dL_396 : decode code 396 = .ok (.aload_n 0, 1) := by decide +kernel
theorem dL_397 : decode code 397 = .ok (.iload_n 3, 1) := by decide +kernel
theorem dL_398 : decode code 398 = .ok (.iconst 2, 1) := by decide +kernel
theorem dL_399 : decode code 399 = .ok (.iadd, 1) := by decide +kernel
theorem dL_400 : decode code 400 = .ok (.iaload, 1) := by decide +kernel
theorem dL_401 : decode code 401 = .ok (.aload_n 0, 1) := by decide +kernel
theorem dL_402 : decode code 402 = .ok (.iload_n 3, 1) := by decide +kernel
theorem dL_403 : decode code 403 = .ok (.iconst 3, 1) := by decide +kernel
theorem dL_404 : decode code 404 = .ok (.iadd, 1) := by decide +kernel
theorem dL_405 : decode code 405 = .ok (.iaload, 1) := by decide +kernel
theorem dL_406 : decode code 406 = .ok (.aload_n 0, 1) := by decide +kernel
theorem dL_407 : decode code 407 = .ok (.iload_n 3, 1) := by decide +kernel
theorem dL_408 : decode code 408 = .ok (.iconst 4, 1) := by decide +kernel
theorem dL_409 : decode code 409 = .ok (.iadd, 1) := by decide +kernel
theorem dL_410 : decode code 410 = .ok (.iaload, 1) := by decide +kernel
theorem dL_411 : decode code 411 = .ok (.aload_n 0, 1) := by decide +kernel
theorem dL_412 : decode code 412 = .ok (.iload_n 3, 1) := by decide +kernel
theorem dL_413 : decode code 413 = .ok (.iconst 5, 1) := by decide +kernel
theorem dL_414 : decode code 414 = .ok (.iadd, 1) := by decide +kernel
theorem dL_415 : decode code 415 = .ok (.iaload, 1) := by decide +kernel
theorem dL_416 : decode code 416 = .ok (.invokevirtual 50, 3) := by decide +kernel
theorem dL_419 : decode code 419 = .ok (.if_icmp .eq 762, 3) := by decide +kernel
theorem dL_422 : decode code 422 = .ok (.iconst 0, 1) := by decide +kernel
theorem dL_423 : decode code 423 = .ok (.ireturn, 1) := by decide +kernel
theorem dL_424 : decode code 424 = .ok (.aload_n 1, 1) := by decide +kernel
theorem dL_425 : decode code 425 = .ok (.aload_n 0, 1) := by decide +kernel
theorem dL_426 : decode code 426 = .ok (.iload_n 3, 1) := by decide +kernel
theorem dL_427 : decode code 427 = .ok (.iconst 1, 1) := by decide +kernel
theorem dL_428 : decode code 428 = .ok (.iadd, 1) := by decide +kernel
theorem dL_429 : decode code 429 = .ok (.iaload, 1) := by decide +kernel
theorem dL_430 : decode code 430 = .ok (.invokevirtual 51, 3) := by decide +kernel
theorem dL_433 : decode code 433 = .ok (.aload_n 2, 1) := by decide +kernel
theorem dL_434 : decode code 434 = .ok (.aload_n 0, 1) := by decide +kernel
theorem dL_435 : decode code 435 = .ok (.iload_n 3, 1) := by decide +kernel
theorem dL_436 : decode code 436 = .ok (.iconst 1, 1) := by decide +kernel
theorem dL_437 : decode code 437 = .ok (.iadd, 1) := by decide +kernel
theorem dL_438 : decode code 438 = .ok (.iaload, 1) := by decide +kernel
theorem dL_439 : decode code 439 = .ok (.invokevirtual 54, 3) := by decide +kernel
theorem dL_442 : decode code 442 = .ok (.if_icmp .eq 739, 3) := by decide +kernel
theorem dL_445 : decode code 445 = .ok (.iconst 0, 1) := by decide +kernel
theorem dL_446 : decode code 446 = .ok (.ireturn, 1) := by decide +kernel
theorem dL_447 : decode code 447 = .ok (.aload_n 1, 1) := by decide +kernel
theorem dL_448 : decode code 448 = .ok (.aload_n 0, 1) := by decide +kernel
theorem dL_449 : decode code 449 = .ok (.iload_n 3, 1) := by decide +kernel
theorem dL_450 : decode code 450 = .ok (.iconst 1, 1) := by decide +kernel
theorem dL_451 : decode code 451 = .ok (.iadd, 1) := by decide +kernel
theorem dL_452 : decode code 452 = .ok (.iaload, 1) := by decide +kernel
theorem dL_453 : decode code 453 = .ok (.invokevirtual 55, 3) := by decide +kernel
theorem dL_456 : decode code 456 = .ok (.aload_n 2, 1) := by decide +kernel
theorem dL_457 : decode code 457 = .ok (.aload_n 0, 1) := by decide +kernel
theorem dL_458 : decode code 458 = .ok (.iload_n 3, 1) := by decide +kernel
theorem dL_459 : decode code 459 = .ok (.iconst 1, 1) := by decide +kernel
theorem dL_460 : decode code 460 = .ok (.iadd, 1) := by decide +kernel
theorem dL_461 : decode code 461 = .ok (.iaload, 1) := by decide +kernel
theorem dL_462 : decode code 462 = .ok (.invokevirtual 58, 3) := by decide +kernel
theorem dL_465 : decode code 465 = .ok (.if_icmp .eq 716, 3) := by decide +kernel
theorem dL_468 : decode code 468 = .ok (.iconst 0, 1) := by decide +kernel
theorem dL_469 : decode code 469 = .ok (.ireturn, 1) := by decide +kernel
theorem dL_470 : decode code 470 = .ok (.aload_n 1, 1) := by decide +kernel
theorem dL_471 : decode code 471 = .ok (.aload_n 0, 1) := by decide +kernel
theorem dL_472 : decode code 472 = .ok (.iload_n 3, 1) := by decide +kernel
theorem dL_473 : decode code 473 = .ok (.iconst 1, 1) := by decide +kernel
theorem dL_474 : decode code 474 = .ok (.iadd, 1) := by decide +kernel
theorem dL_475 : decode code 475 = .ok (.iaload, 1) := by decide +kernel
theorem dL_476 : decode code 476 = .ok (.invokevirtual 59, 3) := by decide +kernel
theorem dL_479 : decode code 479 = .ok (.aload_n 2, 1) := by decide +kernel
theorem dL_480 : decode code 480 = .ok (.aload_n 0, 1) := by decide +kernel
theorem dL_481 : decode code 481 = .ok (.iload_n 3, 1) := by decide +kernel
theorem dL_482 : decode code 482 = .ok (.iconst 1, 1) := by decide +kernel
theorem dL_483 : decode code 483 = .ok (.iadd, 1) := by decide +kernel
theorem dL_484 : decode code 484 = .ok (.iaload, 1) := by decide +kernel
theorem dL_485 : decode code 485 = .ok (.invokevirtual 62, 3) := by decide +kernel
theorem dL_488 : decode code 488 = .ok (.if_icmp .eq 693, 3) := by decide +kernel
theorem dL_491 : decode code 491 = .ok (.iconst 0, 1) := by decide +kernel
theorem dL_492 : decode code 492 = .ok (.ireturn, 1) := by decide +kernel
theorem dL_493 : decode code 493 = .ok (.aload_n 1, 1) := by decide +kernel
theorem dL_494 : decode code 494 = .ok (.aload_n 0, 1) := by decide +kernel
theorem dL_495 : decode code 495 = .ok (.iload_n 3, 1) := by decide +kernel
theorem dL_496 : decode code 496 = .ok (.iconst 1, 1) := by decide +kernel
theorem dL_497 : decode code 497 = .ok (.iadd, 1) := by decide +kernel
theorem dL_498 : decode code 498 = .ok (.iaload, 1) := by decide +kernel
theorem dL_499 : decode code 499 = .ok (.aload_n 0, 1) := by decide +kernel
theorem dL_500 : decode code 500 = .ok (.iload_n 3, 1) := by decide +kernel
theorem dL_501 : decode code 501 = .ok (.iconst 2, 1) := by decide +kernel
theorem dL_502 : decode code 502 = .ok (.iadd, 1) := by decide +kernel
theorem dL_503 : decode code 503 = .ok (.iaload, 1) := by decide +kernel
theorem dL_504 : decode code 504 = .ok (.invokevirtual 63, 3) := by decide +kernel
theorem dL_507 : decode code 507 = .ok (.aload_n 2, 1) := by decide +kernel
theorem dL_508 : decode code 508 = .ok (.aload_n 0, 1) := by decide +kernel
theorem dL_509 : decode code 509 = .ok (.iload_n 3, 1) := by decide +kernel
theorem dL_510 : decode code 510 = .ok (.iconst 1, 1) := by decide +kernel
theorem dL_511 : decode code 511 = .ok (.iadd, 1) := by decide +kernel
theorem dL_512 : decode code 512 = .ok (.iaload, 1) := by decide +kernel
theorem dL_513 : decode code 513 = .ok (.aload_n 0, 1) := by decide +kernel
theorem dL_514 : decode code 514 = .ok (.iload_n 3, 1) := by decide +kernel
theorem dL_515 : decode code 515 = .ok (.iconst 2, 1) := by decide +kernel
theorem dL_516 : decode code 516 = .ok (.iadd, 1) := by decide +kernel
theorem dL_517 : decode code 517 = .ok (.iaload, 1) := by decide +kernel
theorem dL_518 : decode code 518 = .ok (.invokevirtual 67, 3) := by decide +kernel
theorem dL_521 : decode code 521 = .ok (.if_icmp .eq 660, 3) := by decide +kernel
theorem dL_524 : decode code 524 = .ok (.iconst 0, 1) := by decide +kernel
theorem dL_525 : decode code 525 = .ok (.ireturn, 1) := by decide +kernel
theorem dL_526 : decode code 526 = .ok (.aload_n 1, 1) := by decide +kernel
theorem dL_527 : decode code 527 = .ok (.aload_n 0, 1) := by decide +kernel
theorem dL_528 : decode code 528 = .ok (.iload_n 3, 1) := by decide +kernel
theorem dL_529 : decode code 529 = .ok (.iconst 1, 1) := by decide +kernel
theorem dL_530 : decode code 530 = .ok (.iadd, 1) := by decide +kernel
theorem dL_531 : decode code 531 = .ok (.iaload, 1) := by decide +kernel
theorem dL_532 : decode code 532 = .ok (.aload_n 0, 1) := by decide +kernel
theorem dL_533 : decode code 533 = .ok (.iload_n 3, 1) := by decide +kernel
theorem dL_534 : decode code 534 = .ok (.iconst 2, 1) := by decide +kernel
theorem dL_535 : decode code 535 = .ok (.iadd, 1) := by decide +kernel
theorem dL_536 : decode code 536 = .ok (.iaload, 1) := by decide +kernel
theorem dL_537 : decode code 537 = .ok (.invokevirtual 68, 3) := by decide +kernel
theorem dL_540 : decode code 540 = .ok (.aload_n 2, 1) := by decide +kernel
theorem dL_541 : decode code 541 = .ok (.aload_n 0, 1) := by decide +kernel
theorem dL_542 : decode code 542 = .ok (.iload_n 3, 1) := by decide +kernel
theorem dL_543 : decode code 543 = .ok (.iconst 1, 1) := by decide +kernel
theorem dL_544 : decode code 544 = .ok (.iadd, 1) := by decide +kernel
theorem dL_545 : decode code 545 = .ok (.iaload, 1) := by decide +kernel
theorem dL_546 : decode code 546 = .ok (.aload_n 0, 1) := by decide +kernel
theorem dL_547 : decode code 547 = .ok (.iload_n 3, 1) := by decide +kernel
theorem dL_548 : decode code 548 = .ok (.iconst 2, 1) := by decide +kernel
theorem dL_549 : decode code 549 = .ok (.iadd, 1) := by decide +kernel
theorem dL_550 : decode code 550 = .ok (.iaload, 1) := by decide +kernel
theorem dL_551 : decode code 551 = .ok (.invokevirtual 71, 3) := by decide +kernel
theorem dL_554 : decode code 554 = .ok (.if_icmp .eq 627, 3) := by decide +kernel
theorem dL_557 : decode code 557 = .ok (.iconst 0, 1) := by decide +kernel
theorem dL_558 : decode code 558 = .ok (.ireturn, 1) := by decide +kernel
theorem dL_559 : decode code 559 = .ok (.aload_n 1, 1) := by decide +kernel
theorem dL_560 : decode code 560 = .ok (.aload_n 0, 1) := by decide +kernel
theorem dL_561 : decode code 561 = .ok (.iload_n 3, 1) := by decide +kernel
theorem dL_562 : decode code 562 = .ok (.iconst 1, 1) := by decide +kernel
theorem dL_563 : decode code 563 = .ok (.iadd, 1) := by decide +kernel
theorem dL_564 : decode code 564 = .ok (.iaload, 1) := by decide +kernel
theorem dL_565 : decode code 565 = .ok (.aload_n 0, 1) := by decide +kernel
theorem dL_566 : decode code 566 = .ok (.iload_n 3, 1) := by decide +kernel
theorem dL_567 : decode code 567 = .ok (.iconst 2, 1) := by decide +kernel
theorem dL_568 : decode code 568 = .ok (.iadd, 1) := by decide +kernel
theorem dL_569 : decode code 569 = .ok (.iaload, 1) := by decide +kernel
theorem dL_570 : decode code 570 = .ok (.invokevirtual 72, 3) := by decide +kernel
theorem dL_573 : decode code 573 = .ok (.aload_n 2, 1) := by decide +kernel
theorem dL_574 : decode code 574 = .ok (.aload_n 0, 1) := by decide +kernel
theorem dL_575 : decode code 575 = .ok (.iload_n 3, 1) := by decide +kernel
theorem dL_576 : decode code 576 = .ok (.iconst 1, 1) := by decide +kernel
theorem dL_577 : decode code 577 = .ok (.iadd, 1) := by decide +kernel
theorem dL_578 : decode code 578 = .ok (.iaload, 1) := by decide +kernel
theorem dL_579 : decode code 579 = .ok (.aload_n 0, 1) := by decide +kernel
theorem dL_580 : decode code 580 = .ok (.iload_n 3, 1) := by decide +kernel
theorem dL_581 : decode code 581 = .ok (.iconst 2, 1) := by decide +kernel
theorem dL_582 : decode code 582 = .ok (.iadd, 1) := by decide +kernel
theorem dL_583 : decode code 583 = .ok (.iaload, 1) := by decide +kernel
theorem dL_584 : decode code 584 = .ok (.invokevirtual 75, 3) := by decide +kernel
theorem dL_587 : decode code 587 = .ok (.if_icmp .eq 594, 3) := by decide +kernel
theorem dL_590 : decode code 590 = .ok (.iconst 0, 1) := by decide +kernel
theorem dL_591 : decode code 591 = .ok (.ireturn, 1) := by decide +kernel
theorem dL_592 : decode code 592 = .ok (.aload_n 1, 1) := by decide +kernel
theorem dL_593 : decode code 593 = .ok (.aload_n 0, 1) := by decide +kernel
theorem dL_594 : decode code 594 = .ok (.iload_n 3, 1) := by decide +kernel
theorem dL_595 : decode code 595 = .ok (.iconst 1, 1) := by decide +kernel
theorem dL_596 : decode code 596 = .ok (.iadd, 1) := by decide +kernel
theorem dL_597 : decode code 597 = .ok (.iaload, 1) := by decide +kernel
theorem dL_598 : decode code 598 = .ok (.invokevirtual 76, 3) := by decide +kernel
theorem dL_601 : decode code 601 = .ok (.aload_n 2, 1) := by decide +kernel
theorem dL_602 : decode code 602 = .ok (.aload_n 0, 1) := by decide +kernel
theorem dL_603 : decode code 603 = .ok (.iload_n 3, 1) := by decide +kernel
theorem dL_604 : decode code 604 = .ok (.iconst 1, 1) := by decide +kernel
theorem dL_605 : decode code 605 = .ok (.iadd, 1) := by decide +kernel
theorem dL_606 : decode code 606 = .ok (.iaload, 1) := by decide +kernel
theorem dL_607 : decode code 607 = .ok (.invokevirtual 79, 3) := by decide +kernel
theorem dL_610 : decode code 610 = .ok (.if_icmp .eq 571, 3) := by decide +kernel
theorem dL_613 : decode code 613 = .ok (.iconst 0, 1) := by decide +kernel
theorem dL_614 : decode code 614 = .ok (.ireturn, 1) := by decide +kernel
theorem dL_615 : decode code 615 = .ok (.aload_n 1, 1) := by decide +kernel
theorem dL_616 : decode code 616 = .ok (.aload_n 0, 1) := by decide +kernel
theorem dL_617 : decode code 617 = .ok (.iload_n 3, 1) := by decide +kernel
theorem dL_618 : decode code 618 = .ok (.iconst 1, 1) := by decide +kernel
theorem dL_619 : decode code 619 = .ok (.iadd, 1) := by decide +kernel
theorem dL_620 : decode code 620 = .ok (.iaload, 1) := by decide +kernel
theorem dL_621 : decode code 621 = .ok (.aload_n 0, 1) := by decide +kernel
theorem dL_622 : decode code 622 = .ok (.iload_n 3, 1) := by decide +kernel
theorem dL_623 : decode code 623 = .ok (.iconst 2, 1) := by decide +kernel
theorem dL_624 : decode code 624 = .ok (.iadd, 1) := by decide +kernel
theorem dL_625 : decode code 625 = .ok (.iaload, 1) := by decide +kernel
theorem dL_626 : decode code 626 = .ok (.ifCond .eq 7, 3) := by decide +kernel
theorem dL_629 : decode code 629 = .ok (.iconst 1, 1) := by decide +kernel
theorem dL_630 : decode code 630 = .ok (.goto 4, 3) := by decide +kernel
theorem dL_633 : decode code 633 = .ok (.iconst 0, 1) := by decide +kernel
theorem dL_634 : decode code 634 = .ok (.aload_n 0, 1) := by decide +kernel
theorem dL_635 : decode code 635 = .ok (.iload_n 3, 1) := by decide +kernel
theorem dL_636 : decode code 636 = .ok (.iconst 3, 1) := by decide +kernel
theorem dL_637 : decode code 637 = .ok (.iadd, 1) := by decide +kernel
theorem dL_638 : decode code 638 = .ok (.iaload, 1) := by decide +kernel
theorem dL_639 : decode code 639 = .ok (.aload_n 0, 1) := by decide +kernel
theorem dL_640 : decode code 640 = .ok (.iload_n 3, 1) := by decide +kernel
theorem dL_641 : decode code 641 = .ok (.iconst 4, 1) := by decide +kernel
theorem dL_642 : decode code 642 = .ok (.iadd, 1) := by decide +kernel
theorem dL_643 : decode code 643 = .ok (.iaload, 1) := by decide +kernel
theorem dL_644 : decode code 644 = .ok (.invokevirtual 80, 3) := by decide +kernel
theorem dL_647 : decode code 647 = .ok (.aload_n 2, 1) := by decide +kernel
theorem dL_648 : decode code 648 = .ok (.aload_n 0, 1) := by decide +kernel
theorem dL_649 : decode code 649 = .ok (.iload_n 3, 1) := by decide +kernel
theorem dL_650 : decode code 650 = .ok (.iconst 1, 1) := by decide +kernel
theorem dL_651 : decode code 651 = .ok (.iadd, 1) := by decide +kernel
theorem dL_652 : decode code 652 = .ok (.iaload, 1) := by decide +kernel
theorem dL_653 : decode code 653 = .ok (.aload_n 0, 1) := by decide +kernel
theorem dL_654 : decode code 654 = .ok (.iload_n 3, 1) := by decide +kernel
theorem dL_655 : decode code 655 = .ok (.iconst 2, 1) := by decide +kernel
theorem dL_656 : decode code 656 = .ok (.iadd, 1) := by decide +kernel
theorem dL_657 : decode code 657 = .ok (.iaload, 1) := by decide +kernel
theorem dL_658 : decode code 658 = .ok (.ifCond .eq 7, 3) := by decide +kernel
theorem dL_661 : decode code 661 = .ok (.iconst 1, 1) := by decide +kernel
theorem dL_662 : decode code 662 = .ok (.goto 4, 3) := by decide +kernel
theorem dL_665 : decode code 665 = .ok (.iconst 0, 1) := by decide +kernel
theorem dL_666 : decode code 666 = .ok (.aload_n 0, 1) := by decide +kernel
theorem dL_667 : decode code 667 = .ok (.iload_n 3, 1) := by decide +kernel
theorem dL_668 : decode code 668 = .ok (.iconst 3, 1) := by decide +kernel
theorem dL_669 : decode code 669 = .ok (.iadd, 1) := by decide +kernel
theorem dL_670 : decode code 670 = .ok (.iaload, 1) := by decide +kernel
theorem dL_671 : decode code 671 = .ok (.aload_n 0, 1) := by decide +kernel
theorem dL_672 : decode code 672 = .ok (.iload_n 3, 1) := by decide +kernel
theorem dL_673 : decode code 673 = .ok (.iconst 4, 1) := by decide +kernel
theorem dL_674 : decode code 674 = .ok (.iadd, 1) := by decide +kernel
theorem dL_675 : decode code 675 = .ok (.iaload, 1) := by decide +kernel
theorem dL_676 : decode code 676 = .ok (.invokevirtual 84, 3) := by decide +kernel
theorem dL_679 : decode code 679 = .ok (.if_icmp .eq 502, 3) := by decide +kernel
theorem dL_682 : decode code 682 = .ok (.iconst 0, 1) := by decide +kernel
theorem dL_683 : decode code 683 = .ok (.ireturn, 1) := by decide +kernel
theorem dL_684 : decode code 684 = .ok (.aload_n 1, 1) := by decide +kernel
theorem dL_685 : decode code 685 = .ok (.aload_n 0, 1) := by decide +kernel
theorem dL_686 : decode code 686 = .ok (.iload_n 3, 1) := by decide +kernel
theorem dL_687 : decode code 687 = .ok (.iconst 1, 1) := by decide +kernel
theorem dL_688 : decode code 688 = .ok (.iadd, 1) := by decide +kernel
theorem dL_689 : decode code 689 = .ok (.iaload, 1) := by decide +kernel
theorem dL_690 : decode code 690 = .ok (.aload_n 0, 1) := by decide +kernel
theorem dL_691 : decode code 691 = .ok (.iload_n 3, 1) := by decide +kernel
theorem dL_692 : decode code 692 = .ok (.iconst 2, 1) := by decide +kernel
theorem dL_693 : decode code 693 = .ok (.iadd, 1) := by decide +kernel
theorem dL_694 : decode code 694 = .ok (.iaload, 1) := by decide +kernel
theorem dL_695 : decode code 695 = .ok (.invokevirtual 85, 3) := by decide +kernel
theorem dL_698 : decode code 698 = .ok (.aload_n 2, 1) := by decide +kernel
theorem dL_699 : decode code 699 = .ok (.aload_n 0, 1) := by decide +kernel
theorem dL_700 : decode code 700 = .ok (.iload_n 3, 1) := by decide +kernel
theorem dL_701 : decode code 701 = .ok (.iconst 1, 1) := by decide +kernel
theorem dL_702 : decode code 702 = .ok (.iadd, 1) := by decide +kernel
theorem dL_703 : decode code 703 = .ok (.iaload, 1) := by decide +kernel
theorem dL_704 : decode code 704 = .ok (.aload_n 0, 1) := by decide +kernel
theorem dL_705 : decode code 705 = .ok (.iload_n 3, 1) := by decide +kernel
theorem dL_706 : decode code 706 = .ok (.iconst 2, 1) := by decide +kernel
theorem dL_707 : decode code 707 = .ok (.iadd, 1) := by decide +kernel
theorem dL_708 : decode code 708 = .ok (.iaload, 1) := by decide +kernel
theorem dL_709 : decode code 709 = .ok (.invokevirtual 88, 3) := by decide +kernel
theorem dL_712 : decode code 712 = .ok (.if_icmp .eq 469, 3) := by decide +kernel
theorem dL_715 : decode code 715 = .ok (.iconst 0, 1) := by decide +kernel
theorem dL_716 : decode code 716 = .ok (.ireturn, 1) := by decide +kernel
theorem dL_717 : decode code 717 = .ok (.aload_n 1, 1) := by decide +kernel
theorem dL_718 : decode code 718 = .ok (.aload_n 0, 1) := by decide +kernel
theorem dL_719 : decode code 719 = .ok (.iload_n 3, 1) := by decide +kernel
theorem dL_720 : decode code 720 = .ok (.iconst 1, 1) := by decide +kernel
theorem dL_721 : decode code 721 = .ok (.iadd, 1) := by decide +kernel
theorem dL_722 : decode code 722 = .ok (.iaload, 1) := by decide +kernel
theorem dL_723 : decode code 723 = .ok (.aload_n 0, 1) := by decide +kernel
theorem dL_724 : decode code 724 = .ok (.iload_n 3, 1) := by decide +kernel
theorem dL_725 : decode code 725 = .ok (.iconst 2, 1) := by decide +kernel
theorem dL_726 : decode code 726 = .ok (.iadd, 1) := by decide +kernel
theorem dL_727 : decode code 727 = .ok (.iaload, 1) := by decide +kernel
theorem dL_728 : decode code 728 = .ok (.ifCond .eq 7, 3) := by decide +kernel
theorem dL_731 : decode code 731 = .ok (.iconst 1, 1) := by decide +kernel
theorem dL_732 : decode code 732 = .ok (.goto 4, 3) := by decide +kernel
theorem dL_735 : decode code 735 = .ok (.iconst 0, 1) := by decide +kernel
theorem dL_736 : decode code 736 = .ok (.aload_n 0, 1) := by decide +kernel
theorem dL_737 : decode code 737 = .ok (.iload_n 3, 1) := by decide +kernel
theorem dL_738 : decode code 738 = .ok (.iconst 3, 1) := by decide +kernel
theorem dL_739 : decode code 739 = .ok (.iadd, 1) := by decide +kernel
theorem dL_740 : decode code 740 = .ok (.iaload, 1) := by decide +kernel
theorem dL_741 : decode code 741 = .ok (.invokevirtual 89, 3) := by decide +kernel
theorem dL_744 : decode code 744 = .ok (.aload_n 2, 1) := by decide +kernel
theorem dL_745 : decode code 745 = .ok (.aload_n 0, 1) := by decide +kernel
theorem dL_746 : decode code 746 = .ok (.iload_n 3, 1) := by decide +kernel
theorem dL_747 : decode code 747 = .ok (.iconst 1, 1) := by decide +kernel
theorem dL_748 : decode code 748 = .ok (.iadd, 1) := by decide +kernel
theorem dL_749 : decode code 749 = .ok (.iaload, 1) := by decide +kernel
theorem dL_750 : decode code 750 = .ok (.aload_n 0, 1) := by decide +kernel
theorem dL_751 : decode code 751 = .ok (.iload_n 3, 1) := by decide +kernel
theorem dL_752 : decode code 752 = .ok (.iconst 2, 1) := by decide +kernel
theorem dL_753 : decode code 753 = .ok (.iadd, 1) := by decide +kernel
theorem dL_754 : decode code 754 = .ok (.iaload, 1) := by decide +kernel
theorem dL_755 : decode code 755 = .ok (.ifCond .eq 7, 3) := by decide +kernel
theorem dL_758 : decode code 758 = .ok (.iconst 1, 1) := by decide +kernel
theorem dL_759 : decode code 759 = .ok (.goto 4, 3) := by decide +kernel
theorem dL_762 : decode code 762 = .ok (.iconst 0, 1) := by decide +kernel
theorem dL_763 : decode code 763 = .ok (.aload_n 0, 1) := by decide +kernel
theorem dL_764 : decode code 764 = .ok (.iload_n 3, 1) := by decide +kernel
theorem dL_765 : decode code 765 = .ok (.iconst 3, 1) := by decide +kernel
theorem dL_766 : decode code 766 = .ok (.iadd, 1) := by decide +kernel
theorem dL_767 : decode code 767 = .ok (.iaload, 1) := by decide +kernel
theorem dL_768 : decode code 768 = .ok (.invokevirtual 93, 3) := by decide +kernel
theorem dL_771 : decode code 771 = .ok (.if_icmp .eq 410, 3) := by decide +kernel
theorem dL_774 : decode code 774 = .ok (.iconst 0, 1) := by decide +kernel
theorem dL_775 : decode code 775 = .ok (.ireturn, 1) := by decide +kernel
theorem dL_776 : decode code 776 = .ok (.aload_n 1, 1) := by decide +kernel
theorem dL_777 : decode code 777 = .ok (.aload_n 0, 1) := by decide +kernel
theorem dL_778 : decode code 778 = .ok (.iload_n 3, 1) := by decide +kernel
theorem dL_779 : decode code 779 = .ok (.iconst 1, 1) := by decide +kernel
theorem dL_780 : decode code 780 = .ok (.iadd, 1) := by decide +kernel
theorem dL_781 : decode code 781 = .ok (.iaload, 1) := by decide +kernel
theorem dL_782 : decode code 782 = .ok (.aload_n 0, 1) := by decide +kernel
theorem dL_783 : decode code 783 = .ok (.iload_n 3, 1) := by decide +kernel
theorem dL_784 : decode code 784 = .ok (.iconst 2, 1) := by decide +kernel
theorem dL_785 : decode code 785 = .ok (.iadd, 1) := by decide +kernel
theorem dL_786 : decode code 786 = .ok (.iaload, 1) := by decide +kernel
theorem dL_787 : decode code 787 = .ok (.aload_n 0, 1) := by decide +kernel
theorem dL_788 : decode code 788 = .ok (.iload_n 3, 1) := by decide +kernel
theorem dL_789 : decode code 789 = .ok (.iconst 3, 1) := by decide +kernel
theorem dL_790 : decode code 790 = .ok (.iadd, 1) := by decide +kernel
theorem dL_791 : decode code 791 = .ok (.iaload, 1) := by decide +kernel
theorem dL_792 : decode code 792 = .ok (.invokevirtual 94, 3) := by decide +kernel
theorem dL_795 : decode code 795 = .ok (.aload_n 2, 1) := by decide +kernel
theorem dL_796 : decode code 796 = .ok (.aload_n 0, 1) := by decide +kernel
theorem dL_797 : decode code 797 = .ok (.iload_n 3, 1) := by decide +kernel
theorem dL_798 : decode code 798 = .ok (.iconst 1, 1) := by decide +kernel
theorem dL_799 : decode code 799 = .ok (.iadd, 1) := by decide +kernel
theorem dL_800 : decode code 800 = .ok (.iaload, 1) := by decide +kernel
theorem dL_801 : decode code 801 = .ok (.aload_n 0, 1) := by decide +kernel
theorem dL_802 : decode code 802 = .ok (.iload_n 3, 1) := by decide +kernel
theorem dL_803 : decode code 803 = .ok (.iconst 2, 1) := by decide +kernel
theorem dL_804 : decode code 804 = .ok (.iadd, 1) := by decide +kernel
theorem dL_805 : decode code 805 = .ok (.iaload, 1) := by decide +kernel
theorem dL_806 : decode code 806 = .ok (.aload_n 0, 1) := by decide +kernel
theorem dL_807 : decode code 807 = .ok (.iload_n 3, 1) := by decide +kernel
theorem dL_808 : decode code 808 = .ok (.iconst 3, 1) := by decide +kernel
theorem dL_809 : decode code 809 = .ok (.iadd, 1) := by decide +kernel
theorem dL_810 : decode code 810 = .ok (.iaload, 1) := by decide +kernel
theorem dL_811 : decode code 811 = .ok (.invokevirtual 98, 3) := by decide +kernel
theorem dL_814 : decode code 814 = .ok (.if_icmp .eq 367, 3) := by decide +kernel
theorem dL_817 : decode code 817 = .ok (.iconst 0, 1) := by decide +kernel
theorem dL_818 : decode code 818 = .ok (.ireturn, 1) := by decide +kernel
theorem dL_819 : decode code 819 = .ok (.aload_n 1, 1) := by decide +kernel
theorem dL_820 : decode code 820 = .ok (.aload_n 0, 1) := by decide +kernel
theorem dL_821 : decode code 821 = .ok (.iload_n 3, 1) := by decide +kernel
theorem dL_822 : decode code 822 = .ok (.iconst 1, 1) := by decide +kernel
theorem dL_823 : decode code 823 = .ok (.iadd, 1) := by decide +kernel
theorem dL_824 : decode code 824 = .ok (.iaload, 1) := by decide +kernel
theorem dL_825 : decode code 825 = .ok (.aload_n 0, 1) := by decide +kernel
theorem dL_826 : decode code 826 = .ok (.iload_n 3, 1) := by decide +kernel
theorem dL_827 : decode code 827 = .ok (.iconst 2, 1) := by decide +kernel
theorem dL_828 : decode code 828 = .ok (.iadd, 1) := by decide +kernel
theorem dL_829 : decode code 829 = .ok (.iaload, 1) := by decide +kernel
theorem dL_830 : decode code 830 = .ok (.invokevirtual 99, 3) := by decide +kernel
theorem dL_833 : decode code 833 = .ok (.aload_n 2, 1) := by decide +kernel
theorem dL_834 : decode code 834 = .ok (.aload_n 0, 1) := by decide +kernel
theorem dL_835 : decode code 835 = .ok (.iload_n 3, 1) := by decide +kernel
theorem dL_836 : decode code 836 = .ok (.iconst 1, 1) := by decide +kernel
theorem dL_837 : decode code 837 = .ok (.iadd, 1) := by decide +kernel
theorem dL_838 : decode code 838 = .ok (.iaload, 1) := by decide +kernel
theorem dL_839 : decode code 839 = .ok (.aload_n 0, 1) := by decide +kernel
theorem dL_840 : decode code 840 = .ok (.iload_n 3, 1) := by decide +kernel
theorem dL_841 : decode code 841 = .ok (.iconst 2, 1) := by decide +kernel
theorem dL_842 : decode code 842 = .ok (.iadd, 1) := by decide +kernel
theorem dL_843 : decode code 843 = .ok (.iaload, 1) := by decide +kernel
theorem dL_844 : decode code 844 = .ok (.invokevirtual 102, 3) := by decide +kernel
theorem dL_847 : decode code 847 = .ok (.if_icmp .eq 334, 3) := by decide +kernel
theorem dL_850 : decode code 850 = .ok (.iconst 0, 1) := by decide +kernel
theorem dL_851 : decode code 851 = .ok (.ireturn, 1) := by decide +kernel
theorem dL_852 : decode code 852 = .ok (.aload_n 1, 1) := by decide +kernel
theorem dL_853 : decode code 853 = .ok (.aload_n 0, 1) := by decide +kernel
theorem dL_854 : decode code 854 = .ok (.iload_n 3, 1) := by decide +kernel
theorem dL_855 : decode code 855 = .ok (.iconst 1, 1) := by decide +kernel
theorem dL_856 : decode code 856 = .ok (.iadd, 1) := by decide +kernel
theorem dL_857 : decode code 857 = .ok (.iaload, 1) := by decide +kernel
theorem dL_858 : decode code 858 = .ok (.invokevirtual 103, 3) := by decide +kernel
theorem dL_861 : decode code 861 = .ok (.aload_n 2, 1) := by decide +kernel
theorem dL_862 : decode code 862 = .ok (.aload_n 0, 1) := by decide +kernel
theorem dL_863 : decode code 863 = .ok (.iload_n 3, 1) := by decide +kernel
theorem dL_864 : decode code 864 = .ok (.iconst 1, 1) := by decide +kernel
theorem dL_865 : decode code 865 = .ok (.iadd, 1) := by decide +kernel
theorem dL_866 : decode code 866 = .ok (.iaload, 1) := by decide +kernel
theorem dL_867 : decode code 867 = .ok (.invokevirtual 106, 3) := by decide +kernel
theorem dL_870 : decode code 870 = .ok (.if_icmp .eq 311, 3) := by decide +kernel
theorem dL_873 : decode code 873 = .ok (.iconst 0, 1) := by decide +kernel
theorem dL_874 : decode code 874 = .ok (.ireturn, 1) := by decide +kernel
theorem dL_875 : decode code 875 = .ok (.aload_n 1, 1) := by decide +kernel
theorem dL_876 : decode code 876 = .ok (.aload_n 0, 1) := by decide +kernel
theorem dL_877 : decode code 877 = .ok (.iload_n 3, 1) := by decide +kernel
theorem dL_878 : decode code 878 = .ok (.iconst 1, 1) := by decide +kernel
theorem dL_879 : decode code 879 = .ok (.iadd, 1) := by decide +kernel
theorem dL_880 : decode code 880 = .ok (.iaload, 1) := by decide +kernel
theorem dL_881 : decode code 881 = .ok (.invokevirtual 107, 3) := by decide +kernel
theorem dL_884 : decode code 884 = .ok (.aload_n 2, 1) := by decide +kernel
theorem dL_885 : decode code 885 = .ok (.aload_n 0, 1) := by decide +kernel
theorem dL_886 : decode code 886 = .ok (.iload_n 3, 1) := by decide +kernel
theorem dL_887 : decode code 887 = .ok (.iconst 1, 1) := by decide +kernel
theorem dL_888 : decode code 888 = .ok (.iadd, 1) := by decide +kernel
theorem dL_889 : decode code 889 = .ok (.iaload, 1) := by decide +kernel
theorem dL_890 : decode code 890 = .ok (.invokevirtual 110, 3) := by decide +kernel
theorem dL_893 : decode code 893 = .ok (.if_icmp .eq 288, 3) := by decide +kernel
theorem dL_896 : decode code 896 = .ok (.iconst 0, 1) := by decide +kernel
theorem dL_897 : decode code 897 = .ok (.ireturn, 1) := by decide +kernel
theorem dL_898 : decode code 898 = .ok (.aload_n 1, 1) := by decide +kernel
theorem dL_899 : decode code 899 = .ok (.aload_n 0, 1) := by decide +kernel
theorem dL_900 : decode code 900 = .ok (.iload_n 3, 1) := by decide +kernel
theorem dL_901 : decode code 901 = .ok (.iconst 1, 1) := by decide +kernel
theorem dL_902 : decode code 902 = .ok (.iadd, 1) := by decide +kernel
theorem dL_903 : decode code 903 = .ok (.iaload, 1) := by decide +kernel
theorem dL_904 : decode code 904 = .ok (.aload_n 0, 1) := by decide +kernel
theorem dL_905 : decode code 905 = .ok (.iload_n 3, 1) := by decide +kernel
theorem dL_906 : decode code 906 = .ok (.iconst 2, 1) := by decide +kernel
theorem dL_907 : decode code 907 = .ok (.iadd, 1) := by decide +kernel
theorem dL_908 : decode code 908 = .ok (.iaload, 1) := by decide +kernel
theorem dL_909 : decode code 909 = .ok (.invokevirtual 111, 3) := by decide +kernel
theorem dL_912 : decode code 912 = .ok (.aload_n 2, 1) := by decide +kernel
theorem dL_913 : decode code 913 = .ok (.aload_n 0, 1) := by decide +kernel
theorem dL_914 : decode code 914 = .ok (.iload_n 3, 1) := by decide +kernel
theorem dL_915 : decode code 915 = .ok (.iconst 1, 1) := by decide +kernel
theorem dL_916 : decode code 916 = .ok (.iadd, 1) := by decide +kernel
theorem dL_917 : decode code 917 = .ok (.iaload, 1) := by decide +kernel
theorem dL_918 : decode code 918 = .ok (.aload_n 0, 1) := by decide +kernel
theorem dL_919 : decode code 919 = .ok (.iload_n 3, 1) := by decide +kernel
theorem dL_920 : decode code 920 = .ok (.iconst 2, 1) := by decide +kernel
theorem dL_921 : decode code 921 = .ok (.iadd, 1) := by decide +kernel
theorem dL_922 : decode code 922 = .ok (.iaload, 1) := by decide +kernel
theorem dL_923 : decode code 923 = .ok (.invokevirtual 114, 3) := by decide +kernel
theorem dL_926 : decode code 926 = .ok (.if_icmp .eq 255, 3) := by decide +kernel
theorem dL_929 : decode code 929 = .ok (.iconst 0, 1) := by decide +kernel
theorem dL_930 : decode code 930 = .ok (.ireturn, 1) := by decide +kernel
theorem dL_931 : decode code 931 = .ok (.aload_n 1, 1) := by decide +kernel
theorem dL_932 : decode code 932 = .ok (.aload_n 0, 1) := by decide +kernel
theorem dL_933 : decode code 933 = .ok (.iload_n 3, 1) := by decide +kernel
theorem dL_934 : decode code 934 = .ok (.iconst 1, 1) := by decide +kernel
theorem dL_935 : decode code 935 = .ok (.iadd, 1) := by decide +kernel
theorem dL_936 : decode code 936 = .ok (.iaload, 1) := by decide +kernel
theorem dL_937 : decode code 937 = .ok (.invokevirtual 115, 3) := by decide +kernel
theorem dL_940 : decode code 940 = .ok (.aload_n 2, 1) := by decide +kernel
theorem dL_941 : decode code 941 = .ok (.aload_n 0, 1) := by decide +kernel
theorem dL_942 : decode code 942 = .ok (.iload_n 3, 1) := by decide +kernel
theorem dL_943 : decode code 943 = .ok (.iconst 1, 1) := by decide +kernel
theorem dL_944 : decode code 944 = .ok (.iadd, 1) := by decide +kernel
theorem dL_945 : decode code 945 = .ok (.iaload, 1) := by decide +kernel
theorem dL_946 : decode code 946 = .ok (.invokevirtual 118, 3) := by decide +kernel
theorem dL_949 : decode code 949 = .ok (.if_icmp .eq 232, 3) := by decide +kernel
theorem dL_952 : decode code 952 = .ok (.iconst 0, 1) := by decide +kernel
theorem dL_953 : decode code 953 = .ok (.ireturn, 1) := by decide +kernel
theorem dL_954 : decode code 954 = .ok (.aload_n 1, 1) := by decide +kernel
theorem dL_955 : decode code 955 = .ok (.aload_n 0, 1) := by decide +kernel
theorem dL_956 : decode code 956 = .ok (.iload_n 3, 1) := by decide +kernel
theorem dL_957 : decode code 957 = .ok (.iconst 1, 1) := by decide +kernel
theorem dL_958 : decode code 958 = .ok (.iadd, 1) := by decide +kernel
theorem dL_959 : decode code 959 = .ok (.iaload, 1) := by decide +kernel
theorem dL_960 : decode code 960 = .ok (.invokevirtual 119, 3) := by decide +kernel
theorem dL_963 : decode code 963 = .ok (.aload_n 2, 1) := by decide +kernel
theorem dL_964 : decode code 964 = .ok (.aload_n 0, 1) := by decide +kernel
theorem dL_965 : decode code 965 = .ok (.iload_n 3, 1) := by decide +kernel
theorem dL_966 : decode code 966 = .ok (.iconst 1, 1) := by decide +kernel
theorem dL_967 : decode code 967 = .ok (.iadd, 1) := by decide +kernel
theorem dL_968 : decode code 968 = .ok (.iaload, 1) := by decide +kernel
theorem dL_969 : decode code 969 = .ok (.invokevirtual 122, 3) := by decide +kernel
theorem dL_972 : decode code 972 = .ok (.if_icmp .eq 209, 3) := by decide +kernel
theorem dL_975 : decode code 975 = .ok (.iconst 0, 1) := by decide +kernel
theorem dL_976 : decode code 976 = .ok (.ireturn, 1) := by decide +kernel
theorem dL_977 : decode code 977 = .ok (.aload_n 1, 1) := by decide +kernel
theorem dL_978 : decode code 978 = .ok (.aload_n 0, 1) := by decide +kernel
theorem dL_979 : decode code 979 = .ok (.iload_n 3, 1) := by decide +kernel
theorem dL_980 : decode code 980 = .ok (.iconst 1, 1) := by decide +kernel
theorem dL_981 : decode code 981 = .ok (.iadd, 1) := by decide +kernel
theorem dL_982 : decode code 982 = .ok (.iaload, 1) := by decide +kernel
theorem dL_983 : decode code 983 = .ok (.aload_n 0, 1) := by decide +kernel
theorem dL_984 : decode code 984 = .ok (.iload_n 3, 1) := by decide +kernel
theorem dL_985 : decode code 985 = .ok (.iconst 2, 1) := by decide +kernel
theorem dL_986 : decode code 986 = .ok (.iadd, 1) := by decide +kernel
theorem dL_987 : decode code 987 = .ok (.iaload, 1) := by decide +kernel
theorem dL_988 : decode code 988 = .ok (.invokevirtual 123, 3) := by decide +kernel
theorem dL_991 : decode code 991 = .ok (.aload_n 2, 1) := by decide +kernel
theorem dL_992 : decode code 992 = .ok (.aload_n 0, 1) := by decide +kernel
theorem dL_993 : decode code 993 = .ok (.iload_n 3, 1) := by decide +kernel
theorem dL_994 : decode code 994 = .ok (.iconst 1, 1) := by decide +kernel
theorem dL_995 : decode code 995 = .ok (.iadd, 1) := by decide +kernel
theorem dL_996 : decode code 996 = .ok (.iaload, 1) := by decide +kernel
theorem dL_997 : decode code 997 = .ok (.aload_n 0, 1) := by decide +kernel
theorem dL_998 : decode code 998 = .ok (.iload_n 3, 1) := by decide +kernel
theorem dL_999 : decode code 999 = .ok (.iconst 2, 1) := by decide +kernel
theorem dL_1000 : decode code 1000 = .ok (.iadd, 1) := by decide +kernel
theorem dL_1001 : decode code 1001 = .ok (.iaload, 1) := by decide +kernel
theorem dL_1002 : decode code 1002 = .ok (.invokevirtual 126, 3) := by decide +kernel
theorem dL_1005 : decode code 1005 = .ok (.if_icmp .eq 176, 3) := by decide +kernel
theorem dL_1008 : decode code 1008 = .ok (.iconst 0, 1) := by decide +kernel
theorem dL_1009 : decode code 1009 = .ok (.ireturn, 1) := by decide +kernel
theorem dL_1010 : decode code 1010 = .ok (.aload_n 1, 1) := by decide +kernel
theorem dL_1011 : decode code 1011 = .ok (.aload_n 0, 1) := by decide +kernel
theorem dL_1012 : decode code 1012 = .ok (.iload_n 3, 1) := by decide +kernel
theorem dL_1013 : decode code 1013 = .ok (.iconst 1, 1) := by decide +kernel
theorem dL_1014 : decode code 1014 = .ok (.iadd, 1) := by decide +kernel
theorem dL_1015 : decode code 1015 = .ok (.iaload, 1) := by decide +kernel
theorem dL_1016 : decode code 1016 = .ok (.invokevirtual 127, 3) := by decide +kernel
theorem dL_1019 : decode code 1019 = .ok (.aload_n 2, 1) := by decide +kernel
theorem dL_1020 : decode code 1020 = .ok (.aload_n 0, 1) := by decide +kernel
theorem dL_1021 : decode code 1021 = .ok (.iload_n 3, 1) := by decide +kernel
theorem dL_1022 : decode code 1022 = .ok (.iconst 1, 1) := by decide +kernel
theorem dL_1023 : decode code 1023 = .ok (.iadd, 1) := by decide +kernel
theorem dL_1024 : decode code 1024 = .ok (.iaload, 1) := by decide +kernel
theorem dL_1025 : decode code 1025 = .ok (.invokevirtual 130, 3) := by decide +kernel
theorem dL_1028 : decode code 1028 = .ok (.if_icmp .eq 153, 3) := by decide +kernel
theorem dL_1031 : decode code 1031 = .ok (.iconst 0, 1) := by decide +kernel
theorem dL_1032 : decode code 1032 = .ok (.ireturn, 1) := by decide +kernel
theorem dL_1033 : decode code 1033 = .ok (.aload_n 1, 1) := by decide +kernel
theorem dL_1034 : decode code 1034 = .ok (.invokevirtual 131, 3) := by decide +kernel
theorem dL_1037 : decode code 1037 = .ok (.aload_n 2, 1) := by decide +kernel
theorem dL_1038 : decode code 1038 = .ok (.invokevirtual 134, 3) := by decide +kernel
theorem dL_1041 : decode code 1041 = .ok (.if_icmp .eq 140, 3) := by decide +kernel
theorem dL_1044 : decode code 1044 = .ok (.iconst 0, 1) := by decide +kernel
theorem dL_1045 : decode code 1045 = .ok (.ireturn, 1) := by decide +kernel
theorem dL_1046 : decode code 1046 = .ok (.aload_n 1, 1) := by decide +kernel
theorem dL_1047 : decode code 1047 = .ok (.aload_n 0, 1) := by decide +kernel
theorem dL_1048 : decode code 1048 = .ok (.iload_n 3, 1) := by decide +kernel
theorem dL_1049 : decode code 1049 = .ok (.iconst 1, 1) := by decide +kernel
theorem dL_1050 : decode code 1050 = .ok (.iadd, 1) := by decide +kernel
theorem dL_1051 : decode code 1051 = .ok (.iaload, 1) := by decide +kernel
theorem dL_1052 : decode code 1052 = .ok (.invokevirtual 135, 3) := by decide +kernel
theorem dL_1055 : decode code 1055 = .ok (.aload_n 2, 1) := by decide +kernel
theorem dL_1056 : decode code 1056 = .ok (.aload_n 0, 1) := by decide +kernel
theorem dL_1057 : decode code 1057 = .ok (.iload_n 3, 1) := by decide +kernel
theorem dL_1058 : decode code 1058 = .ok (.iconst 1, 1) := by decide +kernel
theorem dL_1059 : decode code 1059 = .ok (.iadd, 1) := by decide +kernel
theorem dL_1060 : decode code 1060 = .ok (.iaload, 1) := by decide +kernel
theorem dL_1061 : decode code 1061 = .ok (.invokevirtual 139, 3) := by decide +kernel
theorem dL_1064 : decode code 1064 = .ok (.lcmp, 1) := by decide +kernel
theorem dL_1065 : decode code 1065 = .ok (.ifCond .eq 116, 3) := by decide +kernel
theorem dL_1068 : decode code 1068 = .ok (.iconst 0, 1) := by decide +kernel
theorem dL_1069 : decode code 1069 = .ok (.ireturn, 1) := by decide +kernel
theorem dL_1070 : decode code 1070 = .ok (.aload_n 1, 1) := by decide +kernel
theorem dL_1071 : decode code 1071 = .ok (.invokevirtual 140, 3) := by decide +kernel
theorem dL_1074 : decode code 1074 = .ok (.aload_n 2, 1) := by decide +kernel
theorem dL_1075 : decode code 1075 = .ok (.invokevirtual 143, 3) := by decide +kernel
theorem dL_1078 : decode code 1078 = .ok (.if_icmp .eq 103, 3) := by decide +kernel
theorem dL_1081 : decode code 1081 = .ok (.iconst 0, 1) := by decide +kernel
theorem dL_1082 : decode code 1082 = .ok (.ireturn, 1) := by decide +kernel
theorem dL_1083 : decode code 1083 = .ok (.aload_n 1, 1) := by decide +kernel
theorem dL_1084 : decode code 1084 = .ok (.aload_n 0, 1) := by decide +kernel
theorem dL_1085 : decode code 1085 = .ok (.iload_n 3, 1) := by decide +kernel
theorem dL_1086 : decode code 1086 = .ok (.iconst 1, 1) := by decide +kernel
theorem dL_1087 : decode code 1087 = .ok (.iadd, 1) := by decide +kernel
theorem dL_1088 : decode code 1088 = .ok (.iaload, 1) := by decide +kernel
theorem dL_1089 : decode code 1089 = .ok (.invokevirtual 144, 3) := by decide +kernel
theorem dL_1092 : decode code 1092 = .ok (.aload_n 2, 1) := by decide +kernel
theorem dL_1093 : decode code 1093 = .ok (.aload_n 0, 1) := by decide +kernel
theorem dL_1094 : decode code 1094 = .ok (.iload_n 3, 1) := by decide +kernel
theorem dL_1095 : decode code 1095 = .ok (.iconst 1, 1) := by decide +kernel
theorem dL_1096 : decode code 1096 = .ok (.iadd, 1) := by decide +kernel
theorem dL_1097 : decode code 1097 = .ok (.iaload, 1) := by decide +kernel
theorem dL_1098 : decode code 1098 = .ok (.invokevirtual 147, 3) := by decide +kernel
theorem dL_1101 : decode code 1101 = .ok (.if_icmp .eq 80, 3) := by decide +kernel
theorem dL_1104 : decode code 1104 = .ok (.iconst 0, 1) := by decide +kernel
theorem dL_1105 : decode code 1105 = .ok (.ireturn, 1) := by decide +kernel
theorem dL_1106 : decode code 1106 = .ok (.aload_n 1, 1) := by decide +kernel
theorem dL_1107 : decode code 1107 = .ok (.invokevirtual 148, 3) := by decide +kernel
theorem dL_1110 : decode code 1110 = .ok (.aload_n 2, 1) := by decide +kernel
theorem dL_1111 : decode code 1111 = .ok (.invokevirtual 152, 3) := by decide +kernel
theorem dL_1114 : decode code 1114 = .ok (.if_icmp .eq 67, 3) := by decide +kernel
theorem dL_1117 : decode code 1117 = .ok (.iconst 0, 1) := by decide +kernel
theorem dL_1118 : decode code 1118 = .ok (.ireturn, 1) := by decide +kernel
theorem dL_1119 : decode code 1119 = .ok (.aload_n 1, 1) := by decide +kernel
theorem dL_1120 : decode code 1120 = .ok (.aload_n 0, 1) := by decide +kernel
theorem dL_1121 : decode code 1121 = .ok (.iload_n 3, 1) := by decide +kernel
theorem dL_1122 : decode code 1122 = .ok (.iconst 1, 1) := by decide +kernel
theorem dL_1123 : decode code 1123 = .ok (.iadd, 1) := by decide +kernel
theorem dL_1124 : decode code 1124 = .ok (.iaload, 1) := by decide +kernel
theorem dL_1125 : decode code 1125 = .ok (.ifCond .eq 7, 3) := by decide +kernel
theorem dL_1128 : decode code 1128 = .ok (.iconst 1, 1) := by decide +kernel
theorem dL_1129 : decode code 1129 = .ok (.goto 4, 3) := by decide +kernel
theorem dL_1132 : decode code 1132 = .ok (.iconst 0, 1) := by decide +kernel
theorem dL_1133 : decode code 1133 = .ok (.invokevirtual 153, 3) := by decide +kernel
theorem dL_1136 : decode code 1136 = .ok (.aload_n 2, 1) := by decide +kernel
theorem dL_1137 : decode code 1137 = .ok (.aload_n 0, 1) := by decide +kernel
theorem dL_1138 : decode code 1138 = .ok (.iload_n 3, 1) := by decide +kernel
theorem dL_1139 : decode code 1139 = .ok (.iconst 1, 1) := by decide +kernel
theorem dL_1140 : decode code 1140 = .ok (.iadd, 1) := by decide +kernel
theorem dL_1141 : decode code 1141 = .ok (.iaload, 1) := by decide +kernel
theorem dL_1142 : decode code 1142 = .ok (.ifCond .eq 7, 3) := by decide +kernel
theorem dL_1145 : decode code 1145 = .ok (.iconst 1, 1) := by decide +kernel
theorem dL_1146 : decode code 1146 = .ok (.goto 4, 3) := by decide +kernel
theorem dL_1149 : decode code 1149 = .ok (.iconst 0, 1) := by decide +kernel
theorem dL_1150 : decode code 1150 = .ok (.invokevirtual 157, 3) := by decide +kernel
theorem dL_1153 : decode code 1153 = .ok (.if_icmp .eq 28, 3) := by decide +kernel
theorem dL_1156 : decode code 1156 = .ok (.iconst 0, 1) := by decide +kernel
theorem dL_1157 : decode code 1157 = .ok (.ireturn, 1) := by decide +kernel
theorem dL_1158 : decode code 1158 = .ok (.aload_n 1, 1) := by decide +kernel
theorem dL_1159 : decode code 1159 = .ok (.aload_n 0, 1) := by decide +kernel
theorem dL_1160 : decode code 1160 = .ok (.iload_n 3, 1) := by decide +kernel
theorem dL_1161 : decode code 1161 = .ok (.iconst 1, 1) := by decide +kernel
theorem dL_1162 : decode code 1162 = .ok (.iadd, 1) := by decide +kernel
theorem dL_1163 : decode code 1163 = .ok (.iaload, 1) := by decide +kernel
theorem dL_1164 : decode code 1164 = .ok (.invokevirtual 158, 3) := by decide +kernel
theorem dL_1167 : decode code 1167 = .ok (.aload_n 2, 1) := by decide +kernel
theorem dL_1168 : decode code 1168 = .ok (.aload_n 0, 1) := by decide +kernel
theorem dL_1169 : decode code 1169 = .ok (.iload_n 3, 1) := by decide +kernel
theorem dL_1170 : decode code 1170 = .ok (.iconst 1, 1) := by decide +kernel
theorem dL_1171 : decode code 1171 = .ok (.iadd, 1) := by decide +kernel
theorem dL_1172 : decode code 1172 = .ok (.iaload, 1) := by decide +kernel
theorem dL_1173 : decode code 1173 = .ok (.invokevirtual 161, 3) := by decide +kernel
theorem dL_1176 : decode code 1176 = .ok (.if_icmp .eq 5, 3) := by decide +kernel
theorem dL_1179 : decode code 1179 = .ok (.iconst 0, 1) := by decide +kernel
theorem dL_1180 : decode code 1180 = .ok (.ireturn, 1) := by decide +kernel
theorem dL_1181 : decode code 1181 = .ok (.iinc 3 6, 3) := by decide +kernel
theorem dL_1184 : decode code 1184 = .ok (.goto (-1166), 3) := by decide +kernel
theorem dL_1187 : decode code 1187 = .ok (.iconst 1, 1) := by decide +kernel
theorem dL_1188 : decode code 1188 = .ok (.ireturn, 1) := by decide +kernel
