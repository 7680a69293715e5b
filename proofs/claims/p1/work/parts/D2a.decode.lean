/-! The law's instructions. Written by wip/gen/law.py. -/
theorem d_0 : decode code 0 = .ok (.new 7, 3) := by decide +kernel
theorem d_3 : decode code 3 = .ok (.dup, 1) := by decide +kernel
theorem d_4 : decode code 4 = .ok (.invokespecial 9, 3) := by decide +kernel
theorem d_7 : decode code 7 = .ok (.astore_n 1, 1) := by decide +kernel
theorem d_8 : decode code 8 = .ok (.new 10, 3) := by decide +kernel
theorem d_11 : decode code 11 = .ok (.dup, 1) := by decide +kernel
theorem d_12 : decode code 12 = .ok (.invokespecial 12, 3) := by decide +kernel
theorem d_15 : decode code 15 = .ok (.astore_n 2, 1) := by decide +kernel
theorem d_16 : decode code 16 = .ok (.iconst 0, 1) := by decide +kernel
theorem d_17 : decode code 17 = .ok (.istore_n 3, 1) := by decide +kernel
theorem d_18 : decode code 18 = .ok (.iload_n 3, 1) := by decide +kernel
theorem d_19 : decode code 19 = .ok (.aload_n 0, 1) := by decide +kernel
theorem d_20 : decode code 20 = .ok (.arraylength, 1) := by decide +kernel
theorem d_21 : decode code 21 = .ok (.bipush 6, 2) := by decide +kernel
theorem d_23 : decode code 23 = .ok (.isub, 1) := by decide +kernel
theorem d_24 : decode code 24 = .ok (.if_icmp .gt 1132, 3) := by decide +kernel
theorem d_27 : decode code 27 = .ok (.aload_n 0, 1) := by decide +kernel
theorem d_28 : decode code 28 = .ok (.iload_n 3, 1) := by decide +kernel
theorem d_29 : decode code 29 = .ok (.iaload, 1) := by decide +kernel
theorem d_30 : decode code 30 = .ok (.bipush 63, 2) := by decide +kernel
theorem d_32 : decode code 32 = .ok (.iand, 1) := by decide +kernel
theorem d_33 : decode code 33 = .ok (.tableswitch 1117 0 39 #[175, 238, 261, 274, 297, 320, 353, 412, 445, 468, 501, 524, 537, 550, 573, 596, 619, 632, 671, 684, 697, 710, 733, 756, 779, 802, 825, 848, 861, 884, 907, 930, 943, 966, 989, 1012, 1035, 1058, 1071, 1094], 175) := by decide +kernel
theorem d_208 : decode code 208 = .ok (.aload_n 1, 1) := by decide +kernel
theorem d_209 : decode code 209 = .ok (.aload_n 0, 1) := by decide +kernel
theorem d_210 : decode code 210 = .ok (.iload_n 3, 1) := by decide +kernel
theorem d_211 : decode code 211 = .ok (.iconst 1, 1) := by decide +kernel
theorem d_212 : decode code 212 = .ok (.iadd, 1) := by decide +kernel
theorem d_213 : decode code 213 = .ok (.iaload, 1) := by decide +kernel
theorem d_214 : decode code 214 = .ok (.aload_n 0, 1) := by decide +kernel
theorem d_215 : decode code 215 = .ok (.iload_n 3, 1) := by decide +kernel
theorem d_216 : decode code 216 = .ok (.iconst 2, 1) := by decide +kernel
theorem d_217 : decode code 217 = .ok (.iadd, 1) := by decide +kernel
theorem d_218 : decode code 218 = .ok (.iaload, 1) := by decide +kernel
theorem d_219 : decode code 219 = .ok (.aload_n 0, 1) := by decide +kernel
theorem d_220 : decode code 220 = .ok (.iload_n 3, 1) := by decide +kernel
theorem d_221 : decode code 221 = .ok (.iconst 3, 1) := by decide +kernel
theorem d_222 : decode code 222 = .ok (.iadd, 1) := by decide +kernel
theorem d_223 : decode code 223 = .ok (.iaload, 1) := by decide +kernel
theorem d_224 : decode code 224 = .ok (.aload_n 0, 1) := by decide +kernel
theorem d_225 : decode code 225 = .ok (.iload_n 3, 1) := by decide +kernel
theorem d_226 : decode code 226 = .ok (.iconst 4, 1) := by decide +kernel
theorem d_227 : decode code 227 = .ok (.iadd, 1) := by decide +kernel
theorem d_228 : decode code 228 = .ok (.iaload, 1) := by decide +kernel
theorem d_229 : decode code 229 = .ok (.aload_n 0, 1) := by decide +kernel
theorem d_230 : decode code 230 = .ok (.iload_n 3, 1) := by decide +kernel
theorem d_231 : decode code 231 = .ok (.iconst 5, 1) := by decide +kernel
theorem d_232 : decode code 232 = .ok (.iadd, 1) := by decide +kernel
theorem d_233 : decode code 233 = .ok (.iaload, 1) := by decide +kernel
theorem d_234 : decode code 234 = .ok (.invokevirtual 13, 3) := by decide +kernel
theorem d_237 : decode code 237 = .ok (.aload_n 2, 1) := by decide +kernel
theorem d_238 : decode code 238 = .ok (.aload_n 0, 1) := by decide +kernel
theorem d_239 : decode code 239 = .ok (.iload_n 3, 1) := by decide +kernel
theorem d_240 : decode code 240 = .ok (.iconst 1, 1) := by decide +kernel
theorem d_241 : decode code 241 = .ok (.iadd, 1) := by decide +kernel
theorem d_242 : decode code 242 = .ok (.iaload, 1) := by decide +kernel
theorem d_243 : decode code 243 = .ok (.aload_n 0, 1) := by decide +kernel
theorem d_244 : decode code 244 = .ok (.iload_n 3, 1) := by decide +kernel
theorem d_245 : decode code 245 = .ok (.iconst 2, 1) := by decide +kernel
theorem d_246 : decode code 246 = .ok (.iadd, 1) := by decide +kernel
theorem d_247 : decode code 247 = .ok (.iaload, 1) := by decide +kernel
theorem d_248 : decode code 248 = .ok (.aload_n 0, 1) := by decide +kernel
theorem d_249 : decode code 249 = .ok (.iload_n 3, 1) := by decide +kernel
theorem d_250 : decode code 250 = .ok (.iconst 3, 1) := by decide +kernel
theorem d_251 : decode code 251 = .ok (.iadd, 1) := by decide +kernel
theorem d_252 : decode code 252 = .ok (.iaload, 1) := by decide +kernel
theorem d_253 : decode code 253 = .ok (.aload_n 0, 1) := by decide +kernel
theorem d_254 : decode code 254 = .ok (.iload_n 3, 1) := by decide +kernel
theorem d_255 : decode code 255 = .ok (.iconst 4, 1) := by decide +kernel
theorem d_256 : decode code 256 = .ok (.iadd, 1) := by decide +kernel
theorem d_257 : decode code 257 = .ok (.iaload, 1) := by decide +kernel
theorem d_258 : decode code 258 = .ok (.aload_n 0, 1) := by decide +kernel
theorem d_259 : decode code 259 = .ok (.iload_n 3, 1) := by decide +kernel
theorem d_260 : decode code 260 = .ok (.iconst 5, 1) := by decide +kernel
theorem d_261 : decode code 261 = .ok (.iadd, 1) := by decide +kernel
theorem d_262 : decode code 262 = .ok (.iaload, 1) := by decide +kernel
theorem d_263 : decode code 263 = .ok (.invokevirtual 17, 3) := by decide +kernel
theorem d_266 : decode code 266 = .ok (.if_icmp .eq 884, 3) := by decide +kernel
theorem d_269 : decode code 269 = .ok (.iconst 0, 1) := by decide +kernel
theorem d_270 : decode code 270 = .ok (.ireturn, 1) := by decide +kernel
theorem d_271 : decode code 271 = .ok (.aload_n 1, 1) := by decide +kernel
theorem d_272 : decode code 272 = .ok (.aload_n 0, 1) := by decide +kernel
theorem d_273 : decode code 273 = .ok (.iload_n 3, 1) := by decide +kernel
theorem d_274 : decode code 274 = .ok (.iconst 1, 1) := by decide +kernel
theorem d_275 : decode code 275 = .ok (.iadd, 1) := by decide +kernel
theorem d_276 : decode code 276 = .ok (.iaload, 1) := by decide +kernel
theorem d_277 : decode code 277 = .ok (.invokevirtual 18, 3) := by decide +kernel
theorem d_280 : decode code 280 = .ok (.aload_n 2, 1) := by decide +kernel
theorem d_281 : decode code 281 = .ok (.aload_n 0, 1) := by decide +kernel
theorem d_282 : decode code 282 = .ok (.iload_n 3, 1) := by decide +kernel
theorem d_283 : decode code 283 = .ok (.iconst 1, 1) := by decide +kernel
theorem d_284 : decode code 284 = .ok (.iadd, 1) := by decide +kernel
theorem d_285 : decode code 285 = .ok (.iaload, 1) := by decide +kernel
theorem d_286 : decode code 286 = .ok (.invokevirtual 22, 3) := by decide +kernel
theorem d_289 : decode code 289 = .ok (.if_icmp .eq 861, 3) := by decide +kernel
theorem d_292 : decode code 292 = .ok (.iconst 0, 1) := by decide +kernel
theorem d_293 : decode code 293 = .ok (.ireturn, 1) := by decide +kernel
theorem d_294 : decode code 294 = .ok (.aload_n 1, 1) := by decide +kernel
theorem d_295 : decode code 295 = .ok (.invokevirtual 23, 3) := by decide +kernel
theorem d_298 : decode code 298 = .ok (.aload_n 2, 1) := by decide +kernel
theorem d_299 : decode code 299 = .ok (.invokevirtual 27, 3) := by decide +kernel
theorem d_302 : decode code 302 = .ok (.if_icmp .eq 848, 3) := by decide +kernel
theorem d_305 : decode code 305 = .ok (.iconst 0, 1) := by decide +kernel
theorem d_306 : decode code 306 = .ok (.ireturn, 1) := by decide +kernel
theorem d_307 : decode code 307 = .ok (.aload_n 1, 1) := by decide +kernel
theorem d_308 : decode code 308 = .ok (.aload_n 0, 1) := by decide +kernel
theorem d_309 : decode code 309 = .ok (.iload_n 3, 1) := by decide +kernel
theorem d_310 : decode code 310 = .ok (.iconst 1, 1) := by decide +kernel
theorem d_311 : decode code 311 = .ok (.iadd, 1) := by decide +kernel
theorem d_312 : decode code 312 = .ok (.iaload, 1) := by decide +kernel
theorem d_313 : decode code 313 = .ok (.invokevirtual 28, 3) := by decide +kernel
theorem d_316 : decode code 316 = .ok (.aload_n 2, 1) := by decide +kernel
theorem d_317 : decode code 317 = .ok (.aload_n 0, 1) := by decide +kernel
theorem d_318 : decode code 318 = .ok (.iload_n 3, 1) := by decide +kernel
theorem d_319 : decode code 319 = .ok (.iconst 1, 1) := by decide +kernel
theorem d_320 : decode code 320 = .ok (.iadd, 1) := by decide +kernel
theorem d_321 : decode code 321 = .ok (.iaload, 1) := by decide +kernel
theorem d_322 : decode code 322 = .ok (.invokevirtual 32, 3) := by decide +kernel
theorem d_325 : decode code 325 = .ok (.if_icmp .eq 825, 3) := by decide +kernel
theorem d_328 : decode code 328 = .ok (.iconst 0, 1) := by decide +kernel
theorem d_329 : decode code 329 = .ok (.ireturn, 1) := by decide +kernel
theorem d_330 : decode code 330 = .ok (.aload_n 1, 1) := by decide +kernel
theorem d_331 : decode code 331 = .ok (.aload_n 0, 1) := by decide +kernel
theorem d_332 : decode code 332 = .ok (.iload_n 3, 1) := by decide +kernel
theorem d_333 : decode code 333 = .ok (.iconst 1, 1) := by decide +kernel
theorem d_334 : decode code 334 = .ok (.iadd, 1) := by decide +kernel
theorem d_335 : decode code 335 = .ok (.iaload, 1) := by decide +kernel
theorem d_336 : decode code 336 = .ok (.invokevirtual 33, 3) := by decide +kernel
theorem d_339 : decode code 339 = .ok (.aload_n 2, 1) := by decide +kernel
theorem d_340 : decode code 340 = .ok (.aload_n 0, 1) := by decide +kernel
theorem d_341 : decode code 341 = .ok (.iload_n 3, 1) := by decide +kernel
theorem d_342 : decode code 342 = .ok (.iconst 1, 1) := by decide +kernel
theorem d_343 : decode code 343 = .ok (.iadd, 1) := by decide +kernel
theorem d_344 : decode code 344 = .ok (.iaload, 1) := by decide +kernel
theorem d_345 : decode code 345 = .ok (.invokevirtual 36, 3) := by decide +kernel
theorem d_348 : decode code 348 = .ok (.if_icmp .eq 802, 3) := by decide +kernel
theorem d_351 : decode code 351 = .ok (.iconst 0, 1) := by decide +kernel
theorem d_352 : decode code 352 = .ok (.ireturn, 1) := by decide +kernel
theorem d_353 : decode code 353 = .ok (.aload_n 1, 1) := by decide +kernel
theorem d_354 : decode code 354 = .ok (.aload_n 0, 1) := by decide +kernel
theorem d_355 : decode code 355 = .ok (.iload_n 3, 1) := by decide +kernel
theorem d_356 : decode code 356 = .ok (.iconst 1, 1) := by decide +kernel
theorem d_357 : decode code 357 = .ok (.iadd, 1) := by decide +kernel
theorem d_358 : decode code 358 = .ok (.iaload, 1) := by decide +kernel
theorem d_359 : decode code 359 = .ok (.aload_n 0, 1) := by decide +kernel
theorem d_360 : decode code 360 = .ok (.iload_n 3, 1) := by decide +kernel
theorem d_361 : decode code 361 = .ok (.iconst 2, 1) := by decide +kernel
theorem d_362 : decode code 362 = .ok (.iadd, 1) := by decide +kernel
theorem d_363 : decode code 363 = .ok (.iaload, 1) := by decide +kernel
theorem d_364 : decode code 364 = .ok (.invokevirtual 37, 3) := by decide +kernel
theorem d_367 : decode code 367 = .ok (.aload_n 2, 1) := by decide +kernel
theorem d_368 : decode code 368 = .ok (.aload_n 0, 1) := by decide +kernel
theorem d_369 : decode code 369 = .ok (.iload_n 3, 1) := by decide +kernel
theorem d_370 : decode code 370 = .ok (.iconst 1, 1) := by decide +kernel
theorem d_371 : decode code 371 = .ok (.iadd, 1) := by decide +kernel
theorem d_372 : decode code 372 = .ok (.iaload, 1) := by decide +kernel
theorem d_373 : decode code 373 = .ok (.aload_n 0, 1) := by decide +kernel
theorem d_374 : decode code 374 = .ok (.iload_n 3, 1) := by decide +kernel
theorem d_375 : decode code 375 = .ok (.iconst 2, 1) := by decide +kernel
theorem d_376 : decode code 376 = .ok (.iadd, 1) := by decide +kernel
theorem d_377 : decode code 377 = .ok (.iaload, 1) := by decide +kernel
theorem d_378 : decode code 378 = .ok (.invokevirtual 41, 3) := by decide +kernel
theorem d_381 : decode code 381 = .ok (.if_icmp .eq 769, 3) := by decide +kernel
theorem d_384 : decode code 384 = .ok (.iconst 0, 1) := by decide +kernel
theorem d_385 : decode code 385 = .ok (.ireturn, 1) := by decide +kernel
theorem d_386 : decode code 386 = .ok (.aload_n 1, 1) := by decide +kernel
theorem d_387 : decode code 387 = .ok (.aload_n 0, 1) := by decide +kernel
theorem d_388 : decode code 388 = .ok (.iload_n 3, 1) := by decide +kernel
theorem d_389 : decode code 389 = .ok (.iconst 1, 1) := by decide +kernel
theorem d_390 : decode code 390 = .ok (.iadd, 1) := by decide +kernel
theorem d_391 : decode code 391 = .ok (.iaload, 1) := by decide +kernel
theorem d_392 : decode code 392 = .ok (.ifCond .eq 7, 3) := by decide +kernel
theorem d_395 : decode code 395 = .ok (.iconst 1, 1) := by decide +kernel
theorem d_396 : decode code 396 = .ok (.goto 4, 3) := by decide +kernel
theorem d_399 : decode code 399 = .ok (.iconst 0, 1) := by decide +kernel
theorem d_400 : decode code 400 = .ok (.aload_n 0, 1) := by decide +kernel
theorem d_401 : decode code 401 = .ok (.iload_n 3, 1) := by decide +kernel
theorem d_402 : decode code 402 = .ok (.iconst 2, 1) := by decide +kernel
theorem d_403 : decode code 403 = .ok (.iadd, 1) := by decide +kernel
theorem d_404 : decode code 404 = .ok (.iaload, 1) := by decide +kernel
theorem d_405 : decode code 405 = .ok (.aload_n 0, 1) := by decide +kernel
theorem d_406 : decode code 406 = .ok (.iload_n 3, 1) := by decide +kernel
theorem d_407 : decode code 407 = .ok (.iconst 3, 1) := by decide +kernel
theorem d_408 : decode code 408 = .ok (.iadd, 1) := by decide +kernel
theorem d_409 : decode code 409 = .ok (.iaload, 1) := by decide +kernel
theorem d_410 : decode code 410 = .ok (.invokevirtual 42, 3) := by decide +kernel
theorem d_413 : decode code 413 = .ok (.aload_n 2, 1) := by decide +kernel
theorem d_414 : decode code 414 = .ok (.aload_n 0, 1) := by decide +kernel
theorem d_415 : decode code 415 = .ok (.iload_n 3, 1) := by decide +kernel
theorem d_416 : decode code 416 = .ok (.iconst 1, 1) := by decide +kernel
theorem d_417 : decode code 417 = .ok (.iadd, 1) := by decide +kernel
theorem d_418 : decode code 418 = .ok (.iaload, 1) := by decide +kernel
theorem d_419 : decode code 419 = .ok (.ifCond .eq 7, 3) := by decide +kernel
theorem d_422 : decode code 422 = .ok (.iconst 1, 1) := by decide +kernel
theorem d_423 : decode code 423 = .ok (.goto 4, 3) := by decide +kernel
theorem d_426 : decode code 426 = .ok (.iconst 0, 1) := by decide +kernel
theorem d_427 : decode code 427 = .ok (.aload_n 0, 1) := by decide +kernel
theorem d_428 : decode code 428 = .ok (.iload_n 3, 1) := by decide +kernel
theorem d_429 : decode code 429 = .ok (.iconst 2, 1) := by decide +kernel
theorem d_430 : decode code 430 = .ok (.iadd, 1) := by decide +kernel
theorem d_431 : decode code 431 = .ok (.iaload, 1) := by decide +kernel
theorem d_432 : decode code 432 = .ok (.aload_n 0, 1) := by decide +kernel
theorem d_433 : decode code 433 = .ok (.iload_n 3, 1) := by decide +kernel
theorem d_434 : decode code 434 = .ok (.iconst 3, 1) := by decide +kernel
theorem d_435 : decode code 435 = .ok (.iadd, 1) := by decide +kernel
theorem d_436 : decode code 436 = .ok (.iaload, 1) := by decide +kernel
theorem d_437 : decode code 437 = .ok (.invokevirtual 46, 3) := by decide +kernel
theorem d_440 : decode code 440 = .ok (.if_icmp .eq 710, 3) := by decide +kernel
theorem d_443 : decode code 443 = .ok (.iconst 0, 1) := by decide +kernel
theorem d_444 : decode code 444 = .ok (.ireturn, 1) := by decide +kernel
theorem d_445 : decode code 445 = .ok (.aload_n 1, 1) := by decide +kernel
theorem d_446 : decode code 446 = .ok (.aload_n 0, 1) := by decide +kernel
theorem d_447 : decode code 447 = .ok (.iload_n 3, 1) := by decide +kernel
theorem d_448 : decode code 448 = .ok (.iconst 1, 1) := by decide +kernel
theorem d_449 : decode code 449 = .ok (.iadd, 1) := by decide +kernel
theorem d_450 : decode code 450 = .ok (.iaload, 1) := by decide +kernel
theorem d_451 : decode code 451 = .ok (.aload_n 0, 1) := by decide +kernel
theorem d_452 : decode code 452 = .ok (.iload_n 3, 1) := by decide +kernel
theorem d_453 : decode code 453 = .ok (.iconst 2, 1) := by decide +kernel
theorem d_454 : decode code 454 = .ok (.iadd, 1) := by decide +kernel
theorem d_455 : decode code 455 = .ok (.iaload, 1) := by decide +kernel
theorem d_456 : decode code 456 = .ok (.invokevirtual 47, 3) := by decide +kernel
theorem d_459 : decode code 459 = .ok (.aload_n 2, 1) := by decide +kernel
theorem d_460 : decode code 460 = .ok (.aload_n 0, 1) := by decide +kernel
theorem d_461 : decode code 461 = .ok (.iload_n 3, 1) := by decide +kernel
theorem d_462 : decode code 462 = .ok (.iconst 1, 1) := by decide +kernel
theorem d_463 : decode code 463 = .ok (.iadd, 1) := by decide +kernel
theorem d_464 : decode code 464 = .ok (.iaload, 1) := by decide +kernel
theorem d_465 : decode code 465 = .ok (.aload_n 0, 1) := by decide +kernel
theorem d_466 : decode code 466 = .ok (.iload_n 3, 1) := by decide +kernel
theorem d_467 : decode code 467 = .ok (.iconst 2, 1) := by decide +kernel
theorem d_468 : decode code 468 = .ok (.iadd, 1) := by decide +kernel
theorem d_469 : decode code 469 = .ok (.iaload, 1) := by decide +kernel
theorem d_470 : decode code 470 = .ok (.invokevirtual 50, 3) := by decide +kernel
theorem d_473 : decode code 473 = .ok (.if_icmp .eq 677, 3) := by decide +kernel
theorem d_476 : decode code 476 = .ok (.iconst 0, 1) := by decide +kernel
theorem d_477 : decode code 477 = .ok (.ireturn, 1) := by decide +kernel
theorem d_478 : decode code 478 = .ok (.aload_n 1, 1) := by decide +kernel
theorem d_479 : decode code 479 = .ok (.aload_n 0, 1) := by decide +kernel
theorem d_480 : decode code 480 = .ok (.iload_n 3, 1) := by decide +kernel
theorem d_481 : decode code 481 = .ok (.iconst 1, 1) := by decide +kernel
