section
/-! The law's cases. Written by wip/gen/law.py. -/
theorem cs_feed {X : LT} {L : Nat} {xs : Nat → Int32} (C : LX X L xs) {i : Nat} (hi : i + 6 ≤ L) {u u1 u2 : MH} {v w : Int32} (k0 : kd u 0 = 9) (k1 : kd u1 188 = 10) (h1 : M_X9_feed [mR (some 0), mI (xs (i + 1)), mI (xs (i + 2)), mI (xs (i + 3)), mI (xs (i + 4)), mI (xs (i + 5))] u = some (some (mI v), u1)) (h2 : M_X10_feed [mR (some 188), mI (xs (i + 1)), mI (xs (i + 2)), mI (xs (i + 3)), mI (xs (i + 4)), mI (xs (i + 5))] u1 = some (some (mI w), u2)) (hz : sz u2 ≤ 600000) (hw : sl u2 ≤ 7302250) (hn : Gl X i 1150 [] u2) : Gl X i 208 [] u := by
  have mo := (S_X10_feed _ _ _ _ h2).1
  refine gl_x C d_208 ?_
  refine gl_arg C (k := 1) (by omega) rfl d_209 d_210 d_211 d_212 d_213 ?_
  refine gl_arg C (k := 2) (by omega) rfl d_214 d_215 d_216 d_217 d_218 ?_
  refine gl_arg C (k := 3) (by omega) rfl d_219 d_220 d_221 d_222 d_223 ?_
  refine gl_arg C (k := 4) (by omega) rfl d_224 d_225 d_226 d_227 d_228 ?_
  refine gl_arg C (k := 5) (by omega) rfl d_229 d_230 d_231 d_232 d_233 ?_
  refine gl_call C S_X9_feed lc_X9_feed (rest := []) h1 k0 (by omega) (by omega) rfl rfl (Or.inl rfl) d_234 ?_
  refine gl_pop C d_237 ?_
  refine gl_m C d_238 ?_
  refine gl_arg C (k := 1) (by omega) rfl d_239 d_240 d_241 d_242 d_243 ?_
  refine gl_arg C (k := 2) (by omega) rfl d_244 d_245 d_246 d_247 d_248 ?_
  refine gl_arg C (k := 3) (by omega) rfl d_249 d_250 d_251 d_252 d_253 ?_
  refine gl_arg C (k := 4) (by omega) rfl d_254 d_255 d_256 d_257 d_258 ?_
  refine gl_arg C (k := 5) (by omega) rfl d_259 d_260 d_261 d_262 d_263 ?_
  refine gl_call C S_X10_feed lc_X10_feed (rest := []) h2 k1 hz hw rfl rfl (Or.inl rfl) d_264 ?_
  refine gl_pop C d_267 ?_
  exact gl_goto C d_268 (by decide) hn
theorem cs_end {X : LT} {L : Nat} {xs : Nat → Int32} (C : LX X L xs) {i : Nat} (hi : i + 6 ≤ L) {u u1 u2 : MH} {v w : Int32} (k0 : kd u 0 = 9) (k1 : kd u1 188 = 10) (h1 : M_X9_end [mR (some 0), mI (xs (i + 1))] u = some (some (mI v), u1)) (h2 : M_X10_end [mR (some 188), mI (xs (i + 1))] u1 = some (some (mI w), u2)) (hz : sz u2 ≤ 600000) (hw : sl u2 ≤ 7302250) (hn : Gl X i 1150 [] u2) : Gl X i 271 [] u := by
  have mo := (S_X10_end _ _ _ _ h2).1
  refine gl_x C d_271 ?_
  refine gl_arg C (k := 1) (by omega) rfl d_272 d_273 d_274 d_275 d_276 ?_
  refine gl_call C S_X9_end lc_X9_end (rest := []) h1 k0 (by omega) (by omega) rfl rfl (Or.inl rfl) d_277 ?_
  refine gl_pop C d_280 ?_
  refine gl_m C d_281 ?_
  refine gl_arg C (k := 1) (by omega) rfl d_282 d_283 d_284 d_285 d_286 ?_
  refine gl_call C S_X10_end lc_X10_end (rest := []) h2 k1 hz hw rfl rfl (Or.inl rfl) d_287 ?_
  refine gl_pop C d_290 ?_
  exact gl_goto C d_291 (by decide) hn
theorem cs_trees {X : LT} {L : Nat} {xs : Nat → Int32} (C : LX X L xs) {i : Nat} (hi : i + 6 ≤ L) {u u1 u2 : MH} {v w : Int32} (k0 : kd u 0 = 9) (k1 : kd u1 188 = 10) (h1 : M_X9_trees [mR (some 0)] u = some (some (mI v), u1)) (h2 : M_X10_trees [mR (some 188)] u1 = some (some (mI w), u2)) (hz : sz u2 ≤ 600000) (hw : sl u2 ≤ 7302250) (hn : Gl X i 1150 [] u2) : Gl X i 294 [] u := by
  have mo := (S_X10_trees _ _ _ _ h2).1
  refine gl_x C d_294 ?_
  refine gl_call C S_X9_trees lc_X9_trees (rest := []) h1 k0 (by omega) (by omega) rfl rfl (Or.inl rfl) d_295 ?_
  refine gl_pop C d_298 ?_
  refine gl_m C d_299 ?_
  refine gl_call C S_X10_trees lc_X10_trees (rest := []) h2 k1 hz hw rfl rfl (Or.inl rfl) d_300 ?_
  refine gl_pop C d_303 ?_
  exact gl_goto C d_304 (by decide) hn
theorem cs_fault {X : LT} {L : Nat} {xs : Nat → Int32} (C : LX X L xs) {i : Nat} (hi : i + 6 ≤ L) {u u1 u2 : MH} {v w : Int32} (k0 : kd u 0 = 9) (k1 : kd u1 188 = 10) (h1 : M_X9_fault [mR (some 0), mI (xs (i + 1))] u = some (some (mI v), u1)) (h2 : M_X10_fault [mR (some 188), mI (xs (i + 1))] u1 = some (some (mI w), u2)) (hz : sz u2 ≤ 600000) (hw : sl u2 ≤ 7302250) (hn : Gl X i 1150 [] u2) : Gl X i 307 [] u := by
  have mo := (S_X10_fault _ _ _ _ h2).1
  refine gl_x C d_307 ?_
  refine gl_arg C (k := 1) (by omega) rfl d_308 d_309 d_310 d_311 d_312 ?_
  refine gl_call C S_X9_fault lc_X9_fault (rest := []) h1 k0 (by omega) (by omega) rfl rfl (Or.inl rfl) d_313 ?_
  refine gl_pop C d_316 ?_
  refine gl_m C d_317 ?_
  refine gl_arg C (k := 1) (by omega) rfl d_318 d_319 d_320 d_321 d_322 ?_
  refine gl_call C S_X10_fault lc_X10_fault (rest := []) h2 k1 hz hw rfl rfl (Or.inl rfl) d_323 ?_
  refine gl_pop C d_326 ?_
  exact gl_goto C d_327 (by decide) hn
theorem cs_has {X : LT} {L : Nat} {xs : Nat → Int32} (C : LX X L xs) {i : Nat} (hi : i + 6 ≤ L) {u u1 u2 : MH} {v w : Int32} (k0 : kd u 0 = 9) (k1 : kd u1 188 = 10) (h1 : M_X9_has [mR (some 0), mI (xs (i + 1))] u = some (some (mI v), u1)) (h2 : M_X10_has [mR (some 188), mI (xs (i + 1))] u1 = some (some (mI w), u2)) (hz : sz u2 ≤ 600000) (hw : sl u2 ≤ 7302250) (hn : Gl X i 1150 [] u2) : Gl X i 330 [] u := by
  have mo := (S_X10_has _ _ _ _ h2).1
  refine gl_x C d_330 ?_
  refine gl_arg C (k := 1) (by omega) rfl d_331 d_332 d_333 d_334 d_335 ?_
  refine gl_call C S_X9_has lc_X9_has (rest := []) h1 k0 (by omega) (by omega) rfl rfl (Or.inl rfl) d_336 ?_
  refine gl_pop C d_339 ?_
  refine gl_m C d_340 ?_
  refine gl_arg C (k := 1) (by omega) rfl d_341 d_342 d_343 d_344 d_345 ?_
  refine gl_call C S_X10_has lc_X10_has (rest := []) h2 k1 hz hw rfl rfl (Or.inl rfl) d_346 ?_
  refine gl_pop C d_349 ?_
  exact gl_goto C d_350 (by decide) hn
theorem cs_node {X : LT} {L : Nat} {xs : Nat → Int32} (C : LX X L xs) {i : Nat} (hi : i + 6 ≤ L) {u u1 u2 : MH} {v w : Int32} (k0 : kd u 0 = 9) (k1 : kd u1 188 = 10) (h1 : M_X9_node [mR (some 0), mI (xs (i + 1)), mI (xs (i + 2))] u = some (some (mI v), u1)) (h2 : M_X10_node [mR (some 188), mI (xs (i + 1)), mI (xs (i + 2))] u1 = some (some (mI w), u2)) (hz : sz u2 ≤ 600000) (hw : sl u2 ≤ 7302250) (hn : Gl X i 1150 [] u2) : Gl X i 353 [] u := by
  have mo := (S_X10_node _ _ _ _ h2).1
  refine gl_x C d_353 ?_
  refine gl_arg C (k := 1) (by omega) rfl d_354 d_355 d_356 d_357 d_358 ?_
  refine gl_arg C (k := 2) (by omega) rfl d_359 d_360 d_361 d_362 d_363 ?_
  refine gl_call C S_X9_node lc_X9_node (rest := []) h1 k0 (by omega) (by omega) rfl rfl (Or.inl rfl) d_364 ?_
  refine gl_pop C d_367 ?_
  refine gl_m C d_368 ?_
  refine gl_arg C (k := 1) (by omega) rfl d_369 d_370 d_371 d_372 d_373 ?_
  refine gl_arg C (k := 2) (by omega) rfl d_374 d_375 d_376 d_377 d_378 ?_
  refine gl_call C S_X10_node lc_X10_node (rest := []) h2 k1 hz hw rfl rfl (Or.inl rfl) d_379 ?_
  refine gl_pop C d_382 ?_
  exact gl_goto C d_383 (by decide) hn
theorem cs_letter {X : LT} {L : Nat} {xs : Nat → Int32} (C : LX X L xs) {i : Nat} (hi : i + 6 ≤ L) {u u1 u2 : MH} {v w : Int32} (k0 : kd u 0 = 9) (k1 : kd u1 188 = 10) (h1 : M_X9_letter [mR (some 0), mI (if xs (i + 1) = 0 then 0 else 1), mI (xs (i + 2)), mI (xs (i + 3))] u = some (some (mI v), u1)) (h2 : M_X10_letter [mR (some 188), mI (if xs (i + 1) = 0 then 0 else 1), mI (xs (i + 2)), mI (xs (i + 3))] u1 = some (some (mI w), u2)) (hz : sz u2 ≤ 600000) (hw : sl u2 ≤ 7302250) (hn : Gl X i 1150 [] u2) : Gl X i 386 [] u := by
  have mo := (S_X10_letter _ _ _ _ h2).1
  refine gl_x C d_386 ?_
  refine gl_flag C (k := 1) (by omega) rfl d_387 d_388 d_389 d_390 d_391 d_392 (by decide) d_395 d_396 (by decide) d_399 ?_
  refine gl_arg C (k := 2) (by omega) rfl d_400 d_401 d_402 d_403 d_404 ?_
  refine gl_arg C (k := 3) (by omega) rfl d_405 d_406 d_407 d_408 d_409 ?_
  refine gl_call C S_X9_letter lc_X9_letter (rest := []) h1 k0 (by omega) (by omega) rfl rfl (Or.inl rfl) d_410 ?_
  refine gl_pop C d_413 ?_
  refine gl_m C d_414 ?_
  refine gl_flag C (k := 1) (by omega) rfl d_415 d_416 d_417 d_418 d_419 d_420 (by decide) d_423 d_424 (by decide) d_427 ?_
  refine gl_arg C (k := 2) (by omega) rfl d_428 d_429 d_430 d_431 d_432 ?_
  refine gl_arg C (k := 3) (by omega) rfl d_433 d_434 d_435 d_436 d_437 ?_
  refine gl_call C S_X10_letter lc_X10_letter (rest := []) h2 k1 hz hw rfl rfl (Or.inl rfl) d_438 ?_
  refine gl_pop C d_441 ?_
  exact gl_goto C d_442 (by decide) hn
theorem cs_entry {X : LT} {L : Nat} {xs : Nat → Int32} (C : LX X L xs) {i : Nat} (hi : i + 6 ≤ L) {u u1 u2 : MH} {v w : Int32} (k0 : kd u 0 = 9) (k1 : kd u1 188 = 10) (h1 : M_X9_entry [mR (some 0), mI (xs (i + 1)), mI (xs (i + 2))] u = some (some (mI v), u1)) (h2 : M_X10_entry [mR (some 188), mI (xs (i + 1)), mI (xs (i + 2))] u1 = some (some (mI w), u2)) (hz : sz u2 ≤ 600000) (hw : sl u2 ≤ 7302250) (hn : Gl X i 1150 [] u2) : Gl X i 445 [] u := by
  have mo := (S_X10_entry _ _ _ _ h2).1
  refine gl_x C d_445 ?_
  refine gl_arg C (k := 1) (by omega) rfl d_446 d_447 d_448 d_449 d_450 ?_
  refine gl_arg C (k := 2) (by omega) rfl d_451 d_452 d_453 d_454 d_455 ?_
  refine gl_call C S_X9_entry lc_X9_entry (rest := []) h1 k0 (by omega) (by omega) rfl rfl (Or.inl rfl) d_456 ?_
  refine gl_pop C d_459 ?_
  refine gl_m C d_460 ?_
  refine gl_arg C (k := 1) (by omega) rfl d_461 d_462 d_463 d_464 d_465 ?_
  refine gl_arg C (k := 2) (by omega) rfl d_466 d_467 d_468 d_469 d_470 ?_
  refine gl_call C S_X10_entry lc_X10_entry (rest := []) h2 k1 hz hw rfl rfl (Or.inl rfl) d_471 ?_
  refine gl_pop C d_474 ?_
  exact gl_goto C d_475 (by decide) hn
theorem cs_child {X : LT} {L : Nat} {xs : Nat → Int32} (C : LX X L xs) {i : Nat} (hi : i + 6 ≤ L) {u u1 u2 : MH} {v w : Int32} (k0 : kd u 0 = 9) (k1 : kd u1 188 = 10) (h1 : M_X9_child [mR (some 0), mI (xs (i + 1))] u = some (some (mI v), u1)) (h2 : M_X10_child [mR (some 188), mI (xs (i + 1))] u1 = some (some (mI w), u2)) (hz : sz u2 ≤ 600000) (hw : sl u2 ≤ 7302250) (hn : Gl X i 1150 [] u2) : Gl X i 478 [] u := by
  have mo := (S_X10_child _ _ _ _ h2).1
  refine gl_x C d_478 ?_
  refine gl_arg C (k := 1) (by omega) rfl d_479 d_480 d_481 d_482 d_483 ?_
  refine gl_call C S_X9_child lc_X9_child (rest := []) h1 k0 (by omega) (by omega) rfl rfl (Or.inl rfl) d_484 ?_
  refine gl_pop C d_487 ?_
  refine gl_m C d_488 ?_
  refine gl_arg C (k := 1) (by omega) rfl d_489 d_490 d_491 d_492 d_493 ?_
  refine gl_call C S_X10_child lc_X10_child (rest := []) h2 k1 hz hw rfl rfl (Or.inl rfl) d_494 ?_
  refine gl_pop C d_497 ?_
  exact gl_goto C d_498 (by decide) hn
theorem cs_walker {X : LT} {L : Nat} {xs : Nat → Int32} (C : LX X L xs) {i : Nat} (hi : i + 6 ≤ L) {u u1 u2 : MH} {v w : Int32} (k0 : kd u 0 = 9) (k1 : kd u1 188 = 10) (h1 : M_X9_walker [mR (some 0), mI (xs (i + 1)), mI (xs (i + 2))] u = some (some (mI v), u1)) (h2 : M_X10_walker [mR (some 188), mI (xs (i + 1)), mI (xs (i + 2))] u1 = some (some (mI w), u2)) (hz : sz u2 ≤ 600000) (hw : sl u2 ≤ 7302250) (hn : Gl X i 1150 [] u2) : Gl X i 501 [] u := by
  have mo := (S_X10_walker _ _ _ _ h2).1
  refine gl_x C d_501 ?_
  refine gl_arg C (k := 1) (by omega) rfl d_502 d_503 d_504 d_505 d_506 ?_
  refine gl_arg C (k := 2) (by omega) rfl d_507 d_508 d_509 d_510 d_511 ?_
  refine gl_call C S_X9_walker lc_X9_walker (rest := []) h1 k0 (by omega) (by omega) rfl rfl (Or.inl rfl) d_512 ?_
  refine gl_pop C d_515 ?_
  refine gl_m C d_516 ?_
  refine gl_arg C (k := 1) (by omega) rfl d_517 d_518 d_519 d_520 d_521 ?_
  refine gl_arg C (k := 2) (by omega) rfl d_522 d_523 d_524 d_525 d_526 ?_
  refine gl_call C S_X10_walker lc_X10_walker (rest := []) h2 k1 hz hw rfl rfl (Or.inl rfl) d_527 ?_
  refine gl_pop C d_530 ?_
  exact gl_goto C d_531 (by decide) hn
theorem cs_handle {X : LT} {L : Nat} {xs : Nat → Int32} (C : LX X L xs) {i : Nat} (hi : i + 6 ≤ L) {u u1 u2 : MH} {v w : Int32} (k0 : kd u 0 = 9) (k1 : kd u1 188 = 10) (h1 : M_X9_handle [mR (some 0), mI (xs (i + 1))] u = some (some (mI v), u1)) (h2 : M_X10_handle [mR (some 188), mI (xs (i + 1))] u1 = some (some (mI w), u2)) (hz : sz u2 ≤ 600000) (hw : sl u2 ≤ 7302250) (hn : Gl X i 1150 [] u2) : Gl X i 534 [] u := by
  have mo := (S_X10_handle _ _ _ _ h2).1
  refine gl_x C d_534 ?_
  refine gl_arg C (k := 1) (by omega) rfl d_535 d_536 d_537 d_538 d_539 ?_
  refine gl_call C S_X9_handle lc_X9_handle (rest := []) h1 k0 (by omega) (by omega) rfl rfl (Or.inl rfl) d_540 ?_
  refine gl_pop C d_543 ?_
  refine gl_m C d_544 ?_
  refine gl_arg C (k := 1) (by omega) rfl d_545 d_546 d_547 d_548 d_549 ?_
  refine gl_call C S_X10_handle lc_X10_handle (rest := []) h2 k1 hz hw rfl rfl (Or.inl rfl) d_550 ?_
  refine gl_pop C d_553 ?_
  exact gl_goto C d_554 (by decide) hn
theorem cs_where {X : LT} {L : Nat} {xs : Nat → Int32} (C : LX X L xs) {i : Nat} (hi : i + 6 ≤ L) {u u1 u2 : MH} {v w : Int32} (k0 : kd u 0 = 9) (k1 : kd u1 188 = 10) (h1 : M_X9_where [mR (some 0)] u = some (some (mI v), u1)) (h2 : M_X10_where [mR (some 188)] u1 = some (some (mI w), u2)) (hz : sz u2 ≤ 600000) (hw : sl u2 ≤ 7302250) (hn : Gl X i 1150 [] u2) : Gl X i 557 [] u := by
  have mo := (S_X10_where _ _ _ _ h2).1
  refine gl_x C d_557 ?_
  refine gl_call C S_X9_where lc_X9_where (rest := []) h1 k0 (by omega) (by omega) rfl rfl (Or.inl rfl) d_558 ?_
  refine gl_pop C d_561 ?_
  refine gl_m C d_562 ?_
  refine gl_call C S_X10_where lc_X10_where (rest := []) h2 k1 hz hw rfl rfl (Or.inl rfl) d_563 ?_
  refine gl_pop C d_566 ?_
  exact gl_goto C d_567 (by decide) hn
theorem cs_needs {X : LT} {L : Nat} {xs : Nat → Int32} (C : LX X L xs) {i : Nat} (hi : i + 6 ≤ L) {u u1 u2 : MH} {v w : Int32} (k0 : kd u 0 = 9) (k1 : kd u1 188 = 10) (h1 : M_X9_needs [mR (some 0)] u = some (some (mI v), u1)) (h2 : M_X10_needs [mR (some 188)] u1 = some (some (mI w), u2)) (hz : sz u2 ≤ 600000) (hw : sl u2 ≤ 7302250) (hn : Gl X i 1150 [] u2) : Gl X i 570 [] u := by
  have mo := (S_X10_needs _ _ _ _ h2).1
  refine gl_x C d_570 ?_
  refine gl_call C S_X9_needs lc_X9_needs (rest := []) h1 k0 (by omega) (by omega) rfl rfl (Or.inl rfl) d_571 ?_
  refine gl_pop C d_574 ?_
  refine gl_m C d_575 ?_
  refine gl_call C S_X10_needs lc_X10_needs (rest := []) h2 k1 hz hw rfl rfl (Or.inl rfl) d_576 ?_
  refine gl_pop C d_579 ?_
  exact gl_goto C d_580 (by decide) hn
theorem cs_victim {X : LT} {L : Nat} {xs : Nat → Int32} (C : LX X L xs) {i : Nat} (hi : i + 6 ≤ L) {u u1 u2 : MH} {v w : Int32} (k0 : kd u 0 = 9) (k1 : kd u1 188 = 10) (h1 : M_X9_victim [mR (some 0), mI (xs (i + 1))] u = some (some (mI v), u1)) (h2 : M_X10_victim [mR (some 188), mI (xs (i + 1))] u1 = some (some (mI w), u2)) (hz : sz u2 ≤ 600000) (hw : sl u2 ≤ 7302250) (hn : Gl X i 1150 [] u2) : Gl X i 583 [] u := by
  have mo := (S_X10_victim _ _ _ _ h2).1
  refine gl_x C d_583 ?_
  refine gl_arg C (k := 1) (by omega) rfl d_584 d_585 d_586 d_587 d_588 ?_
  refine gl_call C S_X9_victim lc_X9_victim (rest := []) h1 k0 (by omega) (by omega) rfl rfl (Or.inl rfl) d_589 ?_
  refine gl_pop C d_592 ?_
  refine gl_m C d_593 ?_
  refine gl_arg C (k := 1) (by omega) rfl d_594 d_595 d_596 d_597 d_598 ?_
  refine gl_call C S_X10_victim lc_X10_victim (rest := []) h2 k1 hz hw rfl rfl (Or.inl rfl) d_599 ?_
  refine gl_pop C d_602 ?_
  exact gl_goto C d_603 (by decide) hn
theorem cs_path {X : LT} {L : Nat} {xs : Nat → Int32} (C : LX X L xs) {i : Nat} (hi : i + 6 ≤ L) {u u1 u2 : MH} {v w : Int32} (k0 : kd u 0 = 9) (k1 : kd u1 188 = 10) (h1 : M_X9_path [mR (some 0), mI (xs (i + 1))] u = some (some (mI v), u1)) (h2 : M_X10_path [mR (some 188), mI (xs (i + 1))] u1 = some (some (mI w), u2)) (hz : sz u2 ≤ 600000) (hw : sl u2 ≤ 7302250) (hn : Gl X i 1150 [] u2) : Gl X i 606 [] u := by
  have mo := (S_X10_path _ _ _ _ h2).1
  refine gl_x C d_606 ?_
  refine gl_arg C (k := 1) (by omega) rfl d_607 d_608 d_609 d_610 d_611 ?_
  refine gl_call C S_X9_path lc_X9_path (rest := []) h1 k0 (by omega) (by omega) rfl rfl (Or.inl rfl) d_612 ?_
  refine gl_pop C d_615 ?_
  refine gl_m C d_616 ?_
  refine gl_arg C (k := 1) (by omega) rfl d_617 d_618 d_619 d_620 d_621 ?_
  refine gl_call C S_X10_path lc_X10_path (rest := []) h2 k1 hz hw rfl rfl (Or.inl rfl) d_622 ?_
  refine gl_pop C d_625 ?_
  exact gl_goto C d_626 (by decide) hn
theorem cs_octet {X : LT} {L : Nat} {xs : Nat → Int32} (C : LX X L xs) {i : Nat} (hi : i + 6 ≤ L) {u u1 u2 : MH} {v w : Int32} (k0 : kd u 0 = 9) (k1 : kd u1 188 = 10) (h1 : M_X9_octet [mR (some 0), mI (xs (i + 1))] u = some (some (mI v), u1)) (h2 : M_X10_octet [mR (some 188), mI (xs (i + 1))] u1 = some (some (mI w), u2)) (hz : sz u2 ≤ 600000) (hw : sl u2 ≤ 7302250) (hn : Gl X i 1150 [] u2) : Gl X i 629 [] u := by
  have mo := (S_X10_octet _ _ _ _ h2).1
  refine gl_x C d_629 ?_
  refine gl_arg C (k := 1) (by omega) rfl d_630 d_631 d_632 d_633 d_634 ?_
  refine gl_call C S_X9_octet lc_X9_octet (rest := []) h1 k0 (by omega) (by omega) rfl rfl (Or.inl rfl) d_635 ?_
  refine gl_pop C d_638 ?_
  refine gl_m C d_639 ?_
  refine gl_arg C (k := 1) (by omega) rfl d_640 d_641 d_642 d_643 d_644 ?_
  refine gl_call C S_X10_octet lc_X10_octet (rest := []) h2 k1 hz hw rfl rfl (Or.inl rfl) d_645 ?_
  refine gl_pop C d_648 ?_
  exact gl_goto C d_649 (by decide) hn
theorem cs_look {X : LT} {L : Nat} {xs : Nat → Int32} (C : LX X L xs) {i : Nat} (hi : i + 6 ≤ L) {u u1 u2 : MH} {v w : Int32} (k0 : kd u 0 = 9) (k1 : kd u1 188 = 10) (h1 : M_X9_look [mR (some 0)] u = some (some (mI v), u1)) (h2 : M_X10_look [mR (some 188)] u1 = some (some (mI w), u2)) (hz : sz u2 ≤ 600000) (hw : sl u2 ≤ 7302250) (hn : Gl X i 1150 [] u2) : Gl X i 652 [] u := by
  have mo := (S_X10_look _ _ _ _ h2).1
  refine gl_x C d_652 ?_
  refine gl_call C S_X9_look lc_X9_look (rest := []) h1 k0 (by omega) (by omega) rfl rfl (Or.inl rfl) d_653 ?_
  refine gl_pop C d_656 ?_
  refine gl_m C d_657 ?_
  refine gl_call C S_X10_look lc_X10_look (rest := []) h2 k1 hz hw rfl rfl (Or.inl rfl) d_658 ?_
  refine gl_pop C d_661 ?_
  exact gl_goto C d_662 (by decide) hn
theorem cs_make {X : LT} {L : Nat} {xs : Nat → Int32} (C : LX X L xs) {i : Nat} (hi : i + 6 ≤ L) {u u1 u2 : MH} {v w : Int32} (k0 : kd u 0 = 9) (k1 : kd u1 188 = 10) (h1 : M_X9_make [mR (some 0), mI (if xs (i + 1) = 0 then 0 else 1)] u = some (some (mI v), u1)) (h2 : M_X10_make [mR (some 188), mI (if xs (i + 1) = 0 then 0 else 1)] u1 = some (some (mI w), u2)) (hz : sz u2 ≤ 600000) (hw : sl u2 ≤ 7302250) (hn : Gl X i 1150 [] u2) : Gl X i 665 [] u := by
  have mo := (S_X10_make _ _ _ _ h2).1
  refine gl_x C d_665 ?_
  refine gl_flag C (k := 1) (by omega) rfl d_666 d_667 d_668 d_669 d_670 d_671 (by decide) d_674 d_675 (by decide) d_678 ?_
  refine gl_call C S_X9_make lc_X9_make (rest := []) h1 k0 (by omega) (by omega) rfl rfl (Or.inl rfl) d_679 ?_
  refine gl_pop C d_682 ?_
  refine gl_m C d_683 ?_
  refine gl_flag C (k := 1) (by omega) rfl d_684 d_685 d_686 d_687 d_688 d_689 (by decide) d_692 d_693 (by decide) d_696 ?_
  refine gl_call C S_X10_make lc_X10_make (rest := []) h2 k1 hz hw rfl rfl (Or.inl rfl) d_697 ?_
  refine gl_pop C d_700 ?_
  exact gl_goto C d_701 (by decide) hn
theorem cs_remove {X : LT} {L : Nat} {xs : Nat → Int32} (C : LX X L xs) {i : Nat} (hi : i + 6 ≤ L) {u u1 u2 : MH} {v w : Int32} (k0 : kd u 0 = 9) (k1 : kd u1 188 = 10) (h1 : M_X9_remove [mR (some 0)] u = some (some (mI v), u1)) (h2 : M_X10_remove [mR (some 188)] u1 = some (some (mI w), u2)) (hz : sz u2 ≤ 600000) (hw : sl u2 ≤ 7302250) (hn : Gl X i 1150 [] u2) : Gl X i 704 [] u := by
  have mo := (S_X10_remove _ _ _ _ h2).1
  refine gl_x C d_704 ?_
  refine gl_call C S_X9_remove lc_X9_remove (rest := []) h1 k0 (by omega) (by omega) rfl rfl (Or.inl rfl) d_705 ?_
  refine gl_pop C d_708 ?_
  refine gl_m C d_709 ?_
  refine gl_call C S_X10_remove lc_X10_remove (rest := []) h2 k1 hz hw rfl rfl (Or.inl rfl) d_710 ?_
  refine gl_pop C d_713 ?_
  exact gl_goto C d_714 (by decide) hn
theorem cs_rename {X : LT} {L : Nat} {xs : Nat → Int32} (C : LX X L xs) {i : Nat} (hi : i + 6 ≤ L) {u u1 u2 : MH} {v w : Int32} (k0 : kd u 0 = 9) (k1 : kd u1 188 = 10) (h1 : M_X9_rename [mR (some 0)] u = some (some (mI v), u1)) (h2 : M_X10_rename [mR (some 188)] u1 = some (some (mI w), u2)) (hz : sz u2 ≤ 600000) (hw : sl u2 ≤ 7302250) (hn : Gl X i 1150 [] u2) : Gl X i 717 [] u := by
  have mo := (S_X10_rename _ _ _ _ h2).1
  refine gl_x C d_717 ?_
  refine gl_call C S_X9_rename lc_X9_rename (rest := []) h1 k0 (by omega) (by omega) rfl rfl (Or.inl rfl) d_718 ?_
  refine gl_pop C d_721 ?_
  refine gl_m C d_722 ?_
  refine gl_call C S_X10_rename lc_X10_rename (rest := []) h2 k1 hz hw rfl rfl (Or.inl rfl) d_723 ?_
  refine gl_pop C d_726 ?_
  exact gl_goto C d_727 (by decide) hn
theorem cs_open {X : LT} {L : Nat} {xs : Nat → Int32} (C : LX X L xs) {i : Nat} (hi : i + 6 ≤ L) {u u1 u2 : MH} {v w : Int32} (k0 : kd u 0 = 9) (k1 : kd u1 188 = 10) (h1 : M_X9_open [mR (some 0)] u = some (some (mI v), u1)) (h2 : M_X10_open [mR (some 188)] u1 = some (some (mI w), u2)) (hz : sz u2 ≤ 600000) (hw : sl u2 ≤ 7302250) (hn : Gl X i 1150 [] u2) : Gl X i 730 [] u := by
  have mo := (S_X10_open _ _ _ _ h2).1
  refine gl_x C d_730 ?_
  refine gl_call C S_X9_open lc_X9_open (rest := []) h1 k0 (by omega) (by omega) rfl rfl (Or.inl rfl) d_731 ?_
  refine gl_pop C d_734 ?_
  refine gl_m C d_735 ?_
  refine gl_call C S_X10_open lc_X10_open (rest := []) h2 k1 hz hw rfl rfl (Or.inl rfl) d_736 ?_
  refine gl_pop C d_739 ?_
  exact gl_goto C d_740 (by decide) hn
theorem cs_close {X : LT} {L : Nat} {xs : Nat → Int32} (C : LX X L xs) {i : Nat} (hi : i + 6 ≤ L) {u u1 u2 : MH} {v w : Int32} (k0 : kd u 0 = 9) (k1 : kd u1 188 = 10) (h1 : M_X9_close [mR (some 0), mI (xs (i + 1))] u = some (some (mI v), u1)) (h2 : M_X10_close [mR (some 188), mI (xs (i + 1))] u1 = some (some (mI w), u2)) (hz : sz u2 ≤ 600000) (hw : sl u2 ≤ 7302250) (hn : Gl X i 1150 [] u2) : Gl X i 743 [] u := by
  have mo := (S_X10_close _ _ _ _ h2).1
  refine gl_x C d_743 ?_
  refine gl_arg C (k := 1) (by omega) rfl d_744 d_745 d_746 d_747 d_748 ?_
  refine gl_call C S_X9_close lc_X9_close (rest := []) h1 k0 (by omega) (by omega) rfl rfl (Or.inl rfl) d_749 ?_
  refine gl_pop C d_752 ?_
  refine gl_m C d_753 ?_
  refine gl_arg C (k := 1) (by omega) rfl d_754 d_755 d_756 d_757 d_758 ?_
  refine gl_call C S_X10_close lc_X10_close (rest := []) h2 k1 hz hw rfl rfl (Or.inl rfl) d_759 ?_
  refine gl_pop C d_762 ?_
  exact gl_goto C d_763 (by decide) hn
theorem cs_mount {X : LT} {L : Nat} {xs : Nat → Int32} (C : LX X L xs) {i : Nat} (hi : i + 6 ≤ L) {u u1 u2 : MH} {v w : Int32} (k0 : kd u 0 = 9) (k1 : kd u1 188 = 10) (h1 : M_X9_mount [mR (some 0), mI (xs (i + 1))] u = some (some (mI v), u1)) (h2 : M_X10_mount [mR (some 188), mI (xs (i + 1))] u1 = some (some (mI w), u2)) (hz : sz u2 ≤ 600000) (hw : sl u2 ≤ 7302250) (hn : Gl X i 1150 [] u2) : Gl X i 766 [] u := by
  have mo := (S_X10_mount _ _ _ _ h2).1
  refine gl_x C d_766 ?_
  refine gl_arg C (k := 1) (by omega) rfl d_767 d_768 d_769 d_770 d_771 ?_
  refine gl_call C S_X9_mount lc_X9_mount (rest := []) h1 k0 (by omega) (by omega) rfl rfl (Or.inl rfl) d_772 ?_
  refine gl_pop C d_775 ?_
  refine gl_m C d_776 ?_
  refine gl_arg C (k := 1) (by omega) rfl d_777 d_778 d_779 d_780 d_781 ?_
  refine gl_call C S_X10_mount lc_X10_mount (rest := []) h2 k1 hz hw rfl rfl (Or.inl rfl) d_782 ?_
  refine gl_pop C d_785 ?_
  exact gl_goto C d_786 (by decide) hn
theorem cs_unmount {X : LT} {L : Nat} {xs : Nat → Int32} (C : LX X L xs) {i : Nat} (hi : i + 6 ≤ L) {u u1 u2 : MH} {v w : Int32} (k0 : kd u 0 = 9) (k1 : kd u1 188 = 10) (h1 : M_X9_unmount [mR (some 0), mI (xs (i + 1))] u = some (some (mI v), u1)) (h2 : M_X10_unmount [mR (some 188), mI (xs (i + 1))] u1 = some (some (mI w), u2)) (hz : sz u2 ≤ 600000) (hw : sl u2 ≤ 7302250) (hn : Gl X i 1150 [] u2) : Gl X i 789 [] u := by
  have mo := (S_X10_unmount _ _ _ _ h2).1
  refine gl_x C d_789 ?_
  refine gl_arg C (k := 1) (by omega) rfl d_790 d_791 d_792 d_793 d_794 ?_
  refine gl_call C S_X9_unmount lc_X9_unmount (rest := []) h1 k0 (by omega) (by omega) rfl rfl (Or.inl rfl) d_795 ?_
  refine gl_pop C d_798 ?_
  refine gl_m C d_799 ?_
  refine gl_arg C (k := 1) (by omega) rfl d_800 d_801 d_802 d_803 d_804 ?_
  refine gl_call C S_X10_unmount lc_X10_unmount (rest := []) h2 k1 hz hw rfl rfl (Or.inl rfl) d_805 ?_
  refine gl_pop C d_808 ?_
  exact gl_goto C d_809 (by decide) hn
theorem cs_trim {X : LT} {L : Nat} {xs : Nat → Int32} (C : LX X L xs) {i : Nat} (hi : i + 6 ≤ L) {u u1 u2 : MH} {v w : Int32} (k0 : kd u 0 = 9) (k1 : kd u1 188 = 10) (h1 : M_X9_trim [mR (some 0), mI (xs (i + 1))] u = some (some (mI v), u1)) (h2 : M_X10_trim [mR (some 188), mI (xs (i + 1))] u1 = some (some (mI w), u2)) (hz : sz u2 ≤ 600000) (hw : sl u2 ≤ 7302250) (hn : Gl X i 1150 [] u2) : Gl X i 812 [] u := by
  have mo := (S_X10_trim _ _ _ _ h2).1
  refine gl_x C d_812 ?_
  refine gl_arg C (k := 1) (by omega) rfl d_813 d_814 d_815 d_816 d_817 ?_
  refine gl_call C S_X9_trim lc_X9_trim (rest := []) h1 k0 (by omega) (by omega) rfl rfl (Or.inl rfl) d_818 ?_
  refine gl_pop C d_821 ?_
  refine gl_m C d_822 ?_
  refine gl_arg C (k := 1) (by omega) rfl d_823 d_824 d_825 d_826 d_827 ?_
  refine gl_call C S_X10_trim lc_X10_trim (rest := []) h2 k1 hz hw rfl rfl (Or.inl rfl) d_828 ?_
  refine gl_pop C d_831 ?_
  exact gl_goto C d_832 (by decide) hn
theorem cs_room {X : LT} {L : Nat} {xs : Nat → Int32} (C : LX X L xs) {i : Nat} (hi : i + 6 ≤ L) {u u1 u2 : MH} {v w : Int32} (k0 : kd u 0 = 9) (k1 : kd u1 188 = 10) (h1 : M_X9_room [mR (some 0), mI (xs (i + 1))] u = some (some (mI v), u1)) (h2 : M_X10_room [mR (some 188), mI (xs (i + 1))] u1 = some (some (mI w), u2)) (hz : sz u2 ≤ 600000) (hw : sl u2 ≤ 7302250) (hn : Gl X i 1150 [] u2) : Gl X i 835 [] u := by
  have mo := (S_X10_room _ _ _ _ h2).1
  refine gl_x C d_835 ?_
  refine gl_arg C (k := 1) (by omega) rfl d_836 d_837 d_838 d_839 d_840 ?_
  refine gl_call C S_X9_room lc_X9_room (rest := []) h1 k0 (by omega) (by omega) rfl rfl (Or.inl rfl) d_841 ?_
  refine gl_pop C d_844 ?_
  refine gl_m C d_845 ?_
  refine gl_arg C (k := 1) (by omega) rfl d_846 d_847 d_848 d_849 d_850 ?_
  refine gl_call C S_X10_room lc_X10_room (rest := []) h2 k1 hz hw rfl rfl (Or.inl rfl) d_851 ?_
  refine gl_pop C d_854 ?_
  exact gl_goto C d_855 (by decide) hn
theorem cs_chance {X : LT} {L : Nat} {xs : Nat → Int32} (C : LX X L xs) {i : Nat} (hi : i + 6 ≤ L) {u u1 u2 : MH} {v w : Int32} (k0 : kd u 0 = 9) (k1 : kd u1 188 = 10) (h1 : M_X9_chance [mR (some 0), mI (xs (i + 1))] u = some (some (mI v), u1)) (h2 : M_X10_chance [mR (some 188), mI (xs (i + 1))] u1 = some (some (mI w), u2)) (hz : sz u2 ≤ 600000) (hw : sl u2 ≤ 7302250) (hn : Gl X i 1150 [] u2) : Gl X i 858 [] u := by
  have mo := (S_X10_chance _ _ _ _ h2).1
  refine gl_x C d_858 ?_
  refine gl_arg C (k := 1) (by omega) rfl d_859 d_860 d_861 d_862 d_863 ?_
  refine gl_call C S_X9_chance lc_X9_chance (rest := []) h1 k0 (by omega) (by omega) rfl rfl (Or.inl rfl) d_864 ?_
  refine gl_pop C d_867 ?_
  refine gl_m C d_868 ?_
  refine gl_arg C (k := 1) (by omega) rfl d_869 d_870 d_871 d_872 d_873 ?_
  refine gl_call C S_X10_chance lc_X10_chance (rest := []) h2 k1 hz hw rfl rfl (Or.inl rfl) d_874 ?_
  refine gl_pop C d_877 ?_
  exact gl_goto C d_878 (by decide) hn
theorem cs_begin {X : LT} {L : Nat} {xs : Nat → Int32} (C : LX X L xs) {i : Nat} (hi : i + 6 ≤ L) {u u1 u2 : MH} {v w : Int32} (k0 : kd u 0 = 9) (k1 : kd u1 188 = 10) (h1 : M_X9_begin [mR (some 0)] u = some (some (mI v), u1)) (h2 : M_X10_begin [mR (some 188)] u1 = some (some (mI w), u2)) (hz : sz u2 ≤ 600000) (hw : sl u2 ≤ 7302250) (hn : Gl X i 1150 [] u2) : Gl X i 881 [] u := by
  have mo := (S_X10_begin _ _ _ _ h2).1
  refine gl_x C d_881 ?_
  refine gl_call C S_X9_begin lc_X9_begin (rest := []) h1 k0 (by omega) (by omega) rfl rfl (Or.inl rfl) d_882 ?_
  refine gl_pop C d_885 ?_
  refine gl_m C d_886 ?_
  refine gl_call C S_X10_begin lc_X10_begin (rest := []) h2 k1 hz hw rfl rfl (Or.inl rfl) d_887 ?_
  refine gl_pop C d_890 ?_
  exact gl_goto C d_891 (by decide) hn
theorem cs_step {X : LT} {L : Nat} {xs : Nat → Int32} (C : LX X L xs) {i : Nat} (hi : i + 6 ≤ L) {u u1 u2 : MH} {v w : Int32} (k0 : kd u 0 = 9) (k1 : kd u1 188 = 10) (h1 : M_X9_step [mR (some 0), mI (xs (i + 1))] u = some (some (mI v), u1)) (h2 : M_X10_step [mR (some 188), mI (xs (i + 1))] u1 = some (some (mI w), u2)) (hz : sz u2 ≤ 600000) (hw : sl u2 ≤ 7302250) (hn : Gl X i 1150 [] u2) : Gl X i 894 [] u := by
  have mo := (S_X10_step _ _ _ _ h2).1
  refine gl_x C d_894 ?_
  refine gl_arg C (k := 1) (by omega) rfl d_895 d_896 d_897 d_898 d_899 ?_
  refine gl_call C S_X9_step lc_X9_step (rest := []) h1 k0 (by omega) (by omega) rfl rfl (Or.inl rfl) d_900 ?_
  refine gl_pop C d_903 ?_
  refine gl_m C d_904 ?_
  refine gl_arg C (k := 1) (by omega) rfl d_905 d_906 d_907 d_908 d_909 ?_
  refine gl_call C S_X10_step lc_X10_step (rest := []) h2 k1 hz hw rfl rfl (Or.inl rfl) d_910 ?_
  refine gl_pop C d_913 ?_
  exact gl_goto C d_914 (by decide) hn
theorem cs_result {X : LT} {L : Nat} {xs : Nat → Int32} (C : LX X L xs) {i : Nat} (hi : i + 6 ≤ L) {u u1 u2 : MH} {v w : Int32} (k0 : kd u 0 = 9) (k1 : kd u1 188 = 10) (h1 : M_X9_result [mR (some 0), mI (xs (i + 1))] u = some (some (mI v), u1)) (h2 : M_X10_result [mR (some 188), mI (xs (i + 1))] u1 = some (some (mI w), u2)) (hz : sz u2 ≤ 600000) (hw : sl u2 ≤ 7302250) (hn : Gl X i 1150 [] u2) : Gl X i 917 [] u := by
  have mo := (S_X10_result _ _ _ _ h2).1
  refine gl_x C d_917 ?_
  refine gl_arg C (k := 1) (by omega) rfl d_918 d_919 d_920 d_921 d_922 ?_
  refine gl_call C S_X9_result lc_X9_result (rest := []) h1 k0 (by omega) (by omega) rfl rfl (Or.inl rfl) d_923 ?_
  refine gl_pop C d_926 ?_
  refine gl_m C d_927 ?_
  refine gl_arg C (k := 1) (by omega) rfl d_928 d_929 d_930 d_931 d_932 ?_
  refine gl_call C S_X10_result lc_X10_result (rest := []) h2 k1 hz hw rfl rfl (Or.inl rfl) d_933 ?_
  refine gl_pop C d_936 ?_
  exact gl_goto C d_937 (by decide) hn
theorem cs_quit {X : LT} {L : Nat} {xs : Nat → Int32} (C : LX X L xs) {i : Nat} (hi : i + 6 ≤ L) {u u1 u2 : MH} {v w : Int32} (k0 : kd u 0 = 9) (k1 : kd u1 188 = 10) (h1 : M_X9_quit [mR (some 0), mI (xs (i + 1))] u = some (some (mI v), u1)) (h2 : M_X10_quit [mR (some 188), mI (xs (i + 1))] u1 = some (some (mI w), u2)) (hz : sz u2 ≤ 600000) (hw : sl u2 ≤ 7302250) (hn : Gl X i 1150 [] u2) : Gl X i 940 [] u := by
  have mo := (S_X10_quit _ _ _ _ h2).1
  refine gl_x C d_940 ?_
  refine gl_arg C (k := 1) (by omega) rfl d_941 d_942 d_943 d_944 d_945 ?_
  refine gl_call C S_X9_quit lc_X9_quit (rest := []) h1 k0 (by omega) (by omega) rfl rfl (Or.inl rfl) d_946 ?_
  refine gl_pop C d_949 ?_
  refine gl_m C d_950 ?_
  refine gl_arg C (k := 1) (by omega) rfl d_951 d_952 d_953 d_954 d_955 ?_
  refine gl_call C S_X10_quit lc_X10_quit (rest := []) h2 k1 hz hw rfl rfl (Or.inl rfl) d_956 ?_
  refine gl_pop C d_959 ?_
  exact gl_goto C d_960 (by decide) hn
theorem cs_trace {X : LT} {L : Nat} {xs : Nat → Int32} (C : LX X L xs) {i : Nat} (hi : i + 6 ≤ L) {u u1 u2 : MH} {v w : Int32} (k0 : kd u 0 = 9) (k1 : kd u1 188 = 10) (h1 : M_X9_trace [mR (some 0)] u = some (some (mI v), u1)) (h2 : M_X10_trace [mR (some 188)] u1 = some (some (mI w), u2)) (hz : sz u2 ≤ 600000) (hw : sl u2 ≤ 7302250) (hn : Gl X i 1150 [] u2) : Gl X i 963 [] u := by
  have mo := (S_X10_trace _ _ _ _ h2).1
  refine gl_x C d_963 ?_
  refine gl_call C S_X9_trace lc_X9_trace (rest := []) h1 k0 (by omega) (by omega) rfl rfl (Or.inl rfl) d_964 ?_
  refine gl_pop C d_967 ?_
  refine gl_m C d_968 ?_
  refine gl_call C S_X10_trace lc_X10_trace (rest := []) h2 k1 hz hw rfl rfl (Or.inl rfl) d_969 ?_
  refine gl_pop C d_972 ?_
  exact gl_goto C d_973 (by decide) hn
theorem cs_loads {X : LT} {L : Nat} {xs : Nat → Int32} (C : LX X L xs) {i : Nat} (hi : i + 6 ≤ L) {u u1 u2 : MH} {v w : Int32} (k0 : kd u 0 = 9) (k1 : kd u1 188 = 10) (h1 : M_X9_loads [mR (some 0), mI (xs (i + 1))] u = some (some (mI v), u1)) (h2 : M_X10_loads [mR (some 188), mI (xs (i + 1))] u1 = some (some (mI w), u2)) (hz : sz u2 ≤ 600000) (hw : sl u2 ≤ 7302250) (hn : Gl X i 1150 [] u2) : Gl X i 976 [] u := by
  have mo := (S_X10_loads _ _ _ _ h2).1
  refine gl_x C d_976 ?_
  refine gl_arg C (k := 1) (by omega) rfl d_977 d_978 d_979 d_980 d_981 ?_
  refine gl_call C S_X9_loads lc_X9_loads (rest := []) h1 k0 (by omega) (by omega) rfl rfl (Or.inl rfl) d_982 ?_
  refine gl_pop C d_985 ?_
  refine gl_m C d_986 ?_
  refine gl_arg C (k := 1) (by omega) rfl d_987 d_988 d_989 d_990 d_991 ?_
  refine gl_call C S_X10_loads lc_X10_loads (rest := []) h2 k1 hz hw rfl rfl (Or.inl rfl) d_992 ?_
  refine gl_pop C d_995 ?_
  exact gl_goto C d_996 (by decide) hn
theorem cs_least {X : LT} {L : Nat} {xs : Nat → Int32} (C : LX X L xs) {i : Nat} (hi : i + 6 ≤ L) {u u1 u2 : MH} {v w : Int32} (k0 : kd u 0 = 9) (k1 : kd u1 188 = 10) (h1 : M_X9_least [mR (some 0), mI (xs (i + 1))] u = some (some (mI v), u1)) (h2 : M_X10_least [mR (some 188), mI (xs (i + 1))] u1 = some (some (mI w), u2)) (hz : sz u2 ≤ 600000) (hw : sl u2 ≤ 7302250) (hn : Gl X i 1150 [] u2) : Gl X i 999 [] u := by
  have mo := (S_X10_least _ _ _ _ h2).1
  refine gl_x C d_999 ?_
  refine gl_arg C (k := 1) (by omega) rfl d_1000 d_1001 d_1002 d_1003 d_1004 ?_
  refine gl_call C S_X9_least lc_X9_least (rest := []) h1 k0 (by omega) (by omega) rfl rfl (Or.inl rfl) d_1005 ?_
  refine gl_pop C d_1008 ?_
  refine gl_m C d_1009 ?_
  refine gl_arg C (k := 1) (by omega) rfl d_1010 d_1011 d_1012 d_1013 d_1014 ?_
  refine gl_call C S_X10_least lc_X10_least (rest := []) h2 k1 hz hw rfl rfl (Or.inl rfl) d_1015 ?_
  refine gl_pop C d_1018 ?_
  exact gl_goto C d_1019 (by decide) hn
theorem cs_see {X : LT} {L : Nat} {xs : Nat → Int32} (C : LX X L xs) {i : Nat} (hi : i + 6 ≤ L) {u u1 u2 : MH} {v w : Int32} (k0 : kd u 0 = 9) (k1 : kd u1 188 = 10) (h1 : M_X9_see [mR (some 0), mI (xs (i + 1))] u = some (some (mI v), u1)) (h2 : M_X10_see [mR (some 188), mI (xs (i + 1))] u1 = some (some (mI w), u2)) (hz : sz u2 ≤ 600000) (hw : sl u2 ≤ 7302250) (hn : Gl X i 1150 [] u2) : Gl X i 1022 [] u := by
  have mo := (S_X10_see _ _ _ _ h2).1
  refine gl_x C d_1022 ?_
  refine gl_arg C (k := 1) (by omega) rfl d_1023 d_1024 d_1025 d_1026 d_1027 ?_
  refine gl_call C S_X9_see lc_X9_see (rest := []) h1 k0 (by omega) (by omega) rfl rfl (Or.inl rfl) d_1028 ?_
  refine gl_pop C d_1031 ?_
  refine gl_m C d_1032 ?_
  refine gl_arg C (k := 1) (by omega) rfl d_1033 d_1034 d_1035 d_1036 d_1037 ?_
  refine gl_call C S_X10_see lc_X10_see (rest := []) h2 k1 hz hw rfl rfl (Or.inl rfl) d_1038 ?_
  refine gl_pop C d_1041 ?_
  exact gl_goto C d_1042 (by decide) hn
theorem cs_fits {X : LT} {L : Nat} {xs : Nat → Int32} (C : LX X L xs) {i : Nat} (hi : i + 6 ≤ L) {u u1 u2 : MH} {v w : Int32} (k0 : kd u 0 = 9) (k1 : kd u1 188 = 10) (h1 : M_X9_fits [mR (some 0), mI (xs (i + 1))] u = some (some (mI v), u1)) (h2 : M_X10_fits [mR (some 188), mI (xs (i + 1))] u1 = some (some (mI w), u2)) (hz : sz u2 ≤ 600000) (hw : sl u2 ≤ 7302250) (hn : Gl X i 1150 [] u2) : Gl X i 1045 [] u := by
  have mo := (S_X10_fits _ _ _ _ h2).1
  refine gl_x C d_1045 ?_
  refine gl_arg C (k := 1) (by omega) rfl d_1046 d_1047 d_1048 d_1049 d_1050 ?_
  refine gl_call C S_X9_fits lc_X9_fits (rest := []) h1 k0 (by omega) (by omega) rfl rfl (Or.inl rfl) d_1051 ?_
  refine gl_pop C d_1054 ?_
  refine gl_m C d_1055 ?_
  refine gl_arg C (k := 1) (by omega) rfl d_1056 d_1057 d_1058 d_1059 d_1060 ?_
  refine gl_call C S_X10_fits lc_X10_fits (rest := []) h2 k1 hz hw rfl rfl (Or.inl rfl) d_1061 ?_
  refine gl_pop C d_1064 ?_
  exact gl_goto C d_1065 (by decide) hn
theorem cs_tells {X : LT} {L : Nat} {xs : Nat → Int32} (C : LX X L xs) {i : Nat} (hi : i + 6 ≤ L) {u u1 u2 : MH} {v w : Int32} (k0 : kd u 0 = 9) (k1 : kd u1 188 = 10) (h1 : M_X9_tells [mR (some 0), mI (xs (i + 1))] u = some (some (mI v), u1)) (h2 : M_X10_tells [mR (some 188), mI (xs (i + 1))] u1 = some (some (mI w), u2)) (hz : sz u2 ≤ 600000) (hw : sl u2 ≤ 7302250) (hn : Gl X i 1150 [] u2) : Gl X i 1068 [] u := by
  have mo := (S_X10_tells _ _ _ _ h2).1
  refine gl_x C d_1068 ?_
  refine gl_arg C (k := 1) (by omega) rfl d_1069 d_1070 d_1071 d_1072 d_1073 ?_
  refine gl_call C S_X9_tells lc_X9_tells (rest := []) h1 k0 (by omega) (by omega) rfl rfl (Or.inl rfl) d_1074 ?_
  refine gl_pop C d_1077 ?_
  refine gl_m C d_1078 ?_
  refine gl_arg C (k := 1) (by omega) rfl d_1079 d_1080 d_1081 d_1082 d_1083 ?_
  refine gl_call C S_X10_tells lc_X10_tells (rest := []) h2 k1 hz hw rfl rfl (Or.inl rfl) d_1084 ?_
  refine gl_pop C d_1087 ?_
  exact gl_goto C d_1088 (by decide) hn
theorem cs_undo {X : LT} {L : Nat} {xs : Nat → Int32} (C : LX X L xs) {i : Nat} (hi : i + 6 ≤ L) {u u1 u2 : MH} {v w : Int32} (k0 : kd u 0 = 9) (k1 : kd u1 188 = 10) (h1 : M_X9_undo [mR (some 0)] u = some (some (mI v), u1)) (h2 : M_X10_undo [mR (some 188)] u1 = some (some (mI w), u2)) (hz : sz u2 ≤ 600000) (hw : sl u2 ≤ 7302250) (hn : Gl X i 1150 [] u2) : Gl X i 1091 [] u := by
  have mo := (S_X10_undo _ _ _ _ h2).1
  refine gl_x C d_1091 ?_
  refine gl_call C S_X9_undo lc_X9_undo (rest := []) h1 k0 (by omega) (by omega) rfl rfl (Or.inl rfl) d_1092 ?_
  refine gl_pop C d_1095 ?_
  refine gl_m C d_1096 ?_
  refine gl_call C S_X10_undo lc_X10_undo (rest := []) h2 k1 hz hw rfl rfl (Or.inl rfl) d_1097 ?_
  refine gl_pop C d_1100 ?_
  exact gl_goto C d_1101 (by decide) hn
theorem cs_seed {X : LT} {L : Nat} {xs : Nat → Int32} (C : LX X L xs) {i : Nat} (hi : i + 6 ≤ L) {u u1 u2 : MH} {v w : Int32} (k0 : kd u 0 = 9) (k1 : kd u1 188 = 10) (h1 : M_X9_seed [mR (some 0), mI (xs (i + 1))] u = some (some (mI v), u1)) (h2 : M_X10_seed [mR (some 188), mI (xs (i + 1))] u1 = some (some (mI w), u2)) (hz : sz u2 ≤ 600000) (hw : sl u2 ≤ 7302250) (hn : Gl X i 1150 [] u2) : Gl X i 1104 [] u := by
  have mo := (S_X10_seed _ _ _ _ h2).1
  refine gl_x C d_1104 ?_
  refine gl_arg C (k := 1) (by omega) rfl d_1105 d_1106 d_1107 d_1108 d_1109 ?_
  refine gl_call C S_X9_seed lc_X9_seed (rest := []) h1 k0 (by omega) (by omega) rfl rfl (Or.inl rfl) d_1110 ?_
  refine gl_pop C d_1113 ?_
  refine gl_m C d_1114 ?_
  refine gl_arg C (k := 1) (by omega) rfl d_1115 d_1116 d_1117 d_1118 d_1119 ?_
  refine gl_call C S_X10_seed lc_X10_seed (rest := []) h2 k1 hz hw rfl rfl (Or.inl rfl) d_1120 ?_
  refine gl_pop C d_1123 ?_
  exact gl_goto C d_1124 (by decide) hn
theorem cs_status {X : LT} {L : Nat} {xs : Nat → Int32} (C : LX X L xs) {i : Nat} (hi : i + 6 ≤ L) {u u1 u2 : MH} {v w : Int32} (k0 : kd u 0 = 9) (k1 : kd u1 188 = 10) (h1 : M_X9_status [mR (some 0), mI (xs (i + 1))] u = some (some (mI v), u1)) (h2 : M_X10_status [mR (some 188), mI (xs (i + 1))] u1 = some (some (mI w), u2)) (e : v = w) (hz : sz u2 ≤ 600000) (hw : sl u2 ≤ 7302250) (hn : Gl X i 1150 [] u2) : Gl X i 1127 [] u := by
  have mo := (S_X10_status _ _ _ _ h2).1
  refine gl_x C d_1127 ?_
  refine gl_arg C (k := 1) (by omega) rfl d_1128 d_1129 d_1130 d_1131 d_1132 ?_
  refine gl_call C S_X9_status lc_X9_status (rest := []) h1 k0 (by omega) (by omega) rfl rfl (Or.inl rfl) d_1133 ?_
  refine gl_m C d_1136 ?_
  refine gl_arg C (k := 1) (by omega) rfl d_1137 d_1138 d_1139 d_1140 d_1141 ?_
  refine gl_call C S_X10_status lc_X10_status (rest := [.int v]) h2 k1 hz hw rfl rfl (Or.inr ⟨v, rfl⟩) d_1142 ?_
  exact gl_eq C e d_1145 (by decide) hn
end
section
/-! The law's start. Written by wip/gen/law.py. -/
theorem tbl_at {i : Nat} {w : Cond} (h : lw_tbl[i]? = some w) : w ∈ lw_tbl := List.mem_of_getElem? h
theorem inst_in : ∀ c, c ≤ 10 → Cond.instantiable (RXc c) (nfl c) ∈ lw_tbl := le10 (tbl_at (ch_2 (q := 16) rfl)) (tbl_at (ch_1 (q := 106) rfl)) (tbl_at (ch_1 (q := 24) rfl)) (tbl_at (ch_1 (q := 71) rfl)) (tbl_at (ch_1 (q := 190) rfl)) (tbl_at (ch_1 (q := 56) rfl)) (tbl_at (ch_2 (q := 35) rfl)) (tbl_at (ch_1 (q := 184) rfl)) (tbl_at (ch_1 (q := 104) rfl)) (tbl_at (ch_1 (q := 16) rfl)) (tbl_at (ch_5 (q := 238) rfl))
def liB (idx : Nat) (y : MethodName) (cc : ByteArray) (nL fr lc : Nat) (ws : List Nat) : Bool :=
  wAt (ws.getD 0 0) (.methodLink R_law idx y) && wAt (ws.getD 1 0) (.code y cc nL none) && wAt (ws.getD 2 0) (.initialized y.cls)
    && decide (y.cls ≠ "java/lang/invoke/MethodHandle" ∧ y.cls ≠ "java/lang/invoke/VarHandle" ∧ (parseMethodDescriptor y.desc).map (fun d => d.parameters.length) = some 0)
    && Nat.ble (fr + 1) 14 && Nat.ble (8 + (nL + 11) + lc) 550 && wAt (ws.getD 3 0) (.instanceMethod y) && decide (y.name = "<init>")
theorem gl_ctor {p : Program} {l : Launch} {e : Env} {s : State} {m : MethodId} {below : List Frame} {meth : Method} {c : Code} {D : va_G} {cy : Nat → ClassId} {b L : Nat} {xs : Nat → Int32} (C : LX (p, l, e, s, m, below, meth, c, D, cy, b) L xs) {idx nL fr lc : Nat} {y : MethodName} {cc : ByteArray} {M : MF} {ws : List Nat} (S : Sd y cc nL none fr lc M) (hc : liB idx y cc nL fr lc ws = true) {a pc : Nat} {u u1 : MH} (hM : M [mR (some a)] u = some (none, u1)) (hz : sz u1 ≤ 600000) (hw : sl u1 ≤ 7302250) {H : Heap} {locs : List Loc} {ls : Array Slot} {q : Nat} {Q : State → Prop} (hH : HR D cy s.heap.size u H) (hS : va_S (fun q => s.heap.size ≤ q) s.heap H locs) (hls : ls.size = 4) (d0 : decode code pc = .ok (.invokespecial idx, 3)) (kk : ∀ (H1 : Heap) (locs1 : List Loc), HR D cy s.heap.size u1 H1 → va_S (fun q => s.heap.size ≤ q) s.heap H1 locs1 → W p l e room_1 s m #[Value.ref b] below meth c H1 locs1 (sz u1) (sl u1) Q (F0 m (pc + 3) ls [.ref q])) : W p l e room_1 s m #[Value.ref b] below meth c H locs (sz u) (sl u) Q (F0 m pc ls [.ref (s.heap.size + a), .ref q]) := by
  obtain ⟨hx, hb, hr, hml, hown, hts, hX, hbl, hlocks, hK, hN, hL⟩ := C
  simp only [liB, Bool.and_eq_true, decide_eq_true_eq] at hc
  obtain ⟨⟨⟨⟨⟨⟨⟨a1, a2⟩, a3⟩, a4⟩, a5⟩, a6⟩, a8⟩, a9⟩ := hc
  have hcode := wAt_in a2
  obtain ⟨mono, hmet⟩ := S _ _ _ _ hM
  have hfit : sz u + (sz u1 - sz u) ≤ room_1.cells ∧ sl u + (sl u1 - sl u) ≤ room_1.slots := by
    show _ ≤ 600000 ∧ _ ≤ 7302250
    omega
  have hpay := pay_in hts (ws := Cond.code y cc nL none :: lw_good) (fun w hw => by
    rcases List.mem_cons.mp hw with h | h
    · rw [h]; exact lw_goodIn _ hcode
    · exact lw_goodIn _ h)
  have hpar : ∀ sig, parseMethodDescriptor y.desc = some sig → 0 = sig.parameters.length := fun sig hs => by
    have h3 := a4.2.2
    rw [hs] at h3
    exact (Option.some.inj h3).symm
  have hp : PreS s H (mP D cy s.heap.size u [mR (some a)]) (.ref (s.heap.size + a) :: []) :=
    ⟨mP_blind _ _ _ _ _, fun U hU hW => ⟨rfl, by rw [hU]; exact hH, va_K.moved hW.alike hK, hN.warm hW⟩⟩
  exact mm_call (va_runI (b := s.heap.size + a) (As := []) (rest := [.ref q]) ⟨hx, hb, hml, hown, hts⟩ (hmet l D cy s.heap.size) ⟨⟨rfl, rfl, Nat.le_of_ble_eq_true a5, Nat.le_of_ble_eq_true a6, hpay, List.mem_cons_self, hts _ hcode, hts _ (wAt_in a3), ⟨a4.1, a4.2.1⟩, hpar, hts _ (wAt_in a1)⟩, a9, hts _ (wAt_in a8)⟩ hp rfl rfl hls rfl (by show 2 * 0 + _ ≤ 8; exact Nat.le_of_ble_eq_true rfl) d0 hfit) hS (fun H1 locs1 hH1 hS1 => by
    have := kk H1 locs1 hH1 hS1
    rw [show sz u + (sz u1 - sz u) = sz u1 by omega, show sl u + (sl u1 - sl u) = sl u1 by omega]
    exact this)
/-- the classes and rows of the tables -/
theorem lx_known {s : State} {b : Nat} (hts : ∀ w ∈ lw_tbl, w.before #[Value.ref b] s = true) : ∃ (D : va_G) (cy : Nat → ClassId), va_K D mcl (mty cy) s ∧ NW s := by
  have hg : ∀ w ∈ lw_good, w.before #[Value.ref b] s = true := fun w hw => hts w (List.mem_filter.mp hw).1
  have K : ∀ c, ∃ q : ClassId × (Nat → Nat), c ≤ 10 → u_Kn s (RXc c) (TXc c) (nfl c) q.1 q.2 := fun c => by
    by_cases hc : c ≤ 10
    · obtain ⟨a, f, h⟩ := u_known (C := RXc c) (T := TXc c) (N := nfl c) (n := nfl c) hg (fw_all c hc) (hts _ (inst_in c hc))
      exact ⟨(a, f), fun _ => h⟩
    · exact ⟨(default, fun _ => 0), fun h => absurd h hc⟩
  obtain ⟨f, hf⟩ := Classical.skolem.mp K
  have o4 : (Cond.arrayOver (.object RX4)).before #[Value.ref b] s = true := hts _ (tbl_at (ch_2 (q := 41) rfl))
  have o7 : (Cond.arrayOver (.object RX7)).before #[Value.ref b] s = true := hts _ (tbl_at (ch_1 (q := 182) rfl))
  have o8 : (Cond.arrayOver (.object RX8)).before #[Value.ref b] s = true := hts _ (tbl_at (ch_2 (q := 22) rfl))
  have oA : (Cond.arrayOver (.array .int)).before #[Value.ref b] s = true := hts _ (tbl_at (ch_2 (q := 43) rfl))
  have aI : (Cond.arrayClass .int).before #[Value.ref b] s = true := hts _ (tbl_at (ch_1 (q := 54) rfl))
  have aZ : (Cond.arrayClass .boolean).before #[Value.ref b] s = true := hts _ (tbl_at (ch_6 (q := 134) rfl))
  obtain ⟨cI, kI, pI, i1, i2, i3⟩ := Cond.arrayClass_spec aI
  obtain ⟨cZ, kZ, pZ, z1, z2, z3⟩ := Cond.arrayClass_spec aZ
  obtain ⟨p4, c4, k4, f41, f42, f43, f44, f45⟩ := Cond.arrayOver_spec o4
  obtain ⟨p7, c7, k7, f71, f72, f73, f74, f75⟩ := Cond.arrayOver_spec o7
  obtain ⟨p8, c8, k8, f81, f82, f83, f84, f85⟩ := Cond.arrayOver_spec o8
  obtain ⟨pA, cA, kA, fA1, fA2, fA3, fA4, fA5⟩ := arrayOverA_spec oA
  refine ⟨(fun c => (f c).1, fun c => (f c).2), fun k => if k = 11 then cI else if k = 12 then cZ else if k = 13 then c4 else if k = 14 then c7 else if k = 15 then c8 else cA, ⟨fun c q hq => ?_, fun k q hq => ?_⟩, fun w hw => ?_, va_AO.of o4, va_AO.of o7, va_AO.of o8, oA⟩
  · have hc : c ≤ 10 := by
      rcases Nat.lt_or_ge c 11 with z | z
      · omega
      · have : mcl[c]? = none := List.getElem?_eq_none (by show 11 ≤ c; exact z)
        rw [this] at hq
        cases hq
    rw [mcl_at c hc] at hq
    cases hq
    exact hf c hc
  · match k, hq with
    | 0, hq => cases hq; exact ⟨fun n z => ⟨fun k h => (by cases h), kI, i2, pI, i3⟩, i1⟩
    | 1, hq => cases hq; exact ⟨fun n z => ⟨fun k h => (by cases h), kZ, z2, pZ, z3⟩, z1⟩
    | 2, hq => cases hq; exact ⟨fun n z => ⟨fun k h => (by cases h), k4, f43, p4, f44⟩, k4, p4, f43, f44, f41, f45⟩
    | 3, hq => cases hq; exact ⟨fun n z => ⟨fun k h => (by cases h), k7, f73, p7, f74⟩, k7, p7, f73, f74, f71, f75⟩
    | 4, hq => cases hq; exact ⟨fun n z => ⟨fun k h => (by cases h), k8, f83, p8, f84⟩, k8, p8, f83, f84, f81, f85⟩
    | 5, hq => cases hq; exact ⟨fun n z => ⟨fun k h => (by cases h), kA, fA3, pA, fA4⟩, fA5⟩
    | k + 6, hq => simp [mty] at hq
  · have h6 := (List.mem_filter.mp hw).2
    have h7 : w.before #[Value.ref b] s = true := hts w (List.mem_append_right _ (List.mem_filter.mp hw).1)
    cases w <;> first | (cases h6; done) | exact va_Nw.of rfl h7
theorem li_X9 : liB 9 yX9_init cX9_init 3 4 85 [134, 136, 118, 135] = true := by decide +kernel
theorem li_X10 : liB 12 yX10_init cX10_init 1 1 20 [1316, 1318, 130, 1317] = true := by decide +kernel
end
section
/-! Whose the reference is. Written by wip/gen/law.py. -/
theorem kq_feed {s : MH} {x0 x1 x2 x3 x4 : Int32} {r : MO} (h : M_X10_feed [mR (some 188), mI x0, mI x1, mI x2, mI x3, mI x4] s = some r) : kd s 188 = 10 := by
  rw [E_X10_feed] at h
  by_cases k : kd s 188 = 10
  · exact k
  · exfalso
    simp [fI, fZ, wL, k] at h
theorem kq_end {s : MH} {x0 : Int32} {r : MO} (h : M_X10_end [mR (some 188), mI x0] s = some r) : kd s 188 = 10 := by
  rw [E_X10_end] at h
  by_cases k : kd s 188 = 10
  · exact k
  · exfalso
    simp [fI, fZ, wL, k] at h
theorem kq_trees {s : MH} {r : MO} (h : M_X10_trees [mR (some 188)] s = some r) : kd s 188 = 10 := by
  rw [E_X10_trees] at h
  by_cases k : kd s 188 = 10
  · exact k
  · exfalso
    simp [fI, fZ, wL, k] at h
theorem kq_node {s : MH} {x0 x1 : Int32} {r : MO} (h : M_X10_node [mR (some 188), mI x0, mI x1] s = some r) : kd s 188 = 10 := by
  rw [E_X10_node] at h
  by_cases k : kd s 188 = 10
  · exact k
  · exfalso
    simp [fI, fZ, wL, k] at h
theorem kq_entry {s : MH} {x0 x1 : Int32} {r : MO} (h : M_X10_entry [mR (some 188), mI x0, mI x1] s = some r) : kd s 188 = 10 := by
  rw [E_X10_entry] at h
  by_cases k : kd s 188 = 10
  · exact k
  · exfalso
    simp [fI, fZ, wL, k] at h
theorem kq_child {s : MH} {x0 : Int32} {r : MO} (h : M_X10_child [mR (some 188), mI x0] s = some r) : kd s 188 = 10 := by
  rw [E_X10_child] at h
  by_cases k : kd s 188 = 10
  · exact k
  · exfalso
    simp [fI, fZ, wL, k] at h
theorem kq_walker {s : MH} {x0 x1 : Int32} {r : MO} (h : M_X10_walker [mR (some 188), mI x0, mI x1] s = some r) : kd s 188 = 10 := by
  rw [E_X10_walker] at h
  by_cases k : kd s 188 = 10
  · exact k
  · exfalso
    simp [fI, fZ, wL, k] at h
theorem kq_handle {s : MH} {x0 : Int32} {r : MO} (h : M_X10_handle [mR (some 188), mI x0] s = some r) : kd s 188 = 10 := by
  rw [E_X10_handle] at h
  by_cases k : kd s 188 = 10
  · exact k
  · exfalso
    simp [fI, fZ, wL, k] at h
theorem kq_where {s : MH} {r : MO} (h : M_X10_where [mR (some 188)] s = some r) : kd s 188 = 10 := by
  rw [E_X10_where] at h
  by_cases k : kd s 188 = 10
  · exact k
  · exfalso
    simp [fI, fZ, wL, k] at h
theorem kq_needs {s : MH} {r : MO} (h : M_X10_needs [mR (some 188)] s = some r) : kd s 188 = 10 := by
  rw [E_X10_needs] at h
  by_cases k : kd s 188 = 10
  · exact k
  · exfalso
    simp [fI, fZ, wL, k] at h
theorem kq_victim {s : MH} {x0 : Int32} {r : MO} (h : M_X10_victim [mR (some 188), mI x0] s = some r) : kd s 188 = 10 := by
  rw [E_X10_victim] at h
  by_cases k : kd s 188 = 10
  · exact k
  · exfalso
    simp [fI, fZ, wL, k] at h
theorem kq_path {s : MH} {x0 : Int32} {r : MO} (h : M_X10_path [mR (some 188), mI x0] s = some r) : kd s 188 = 10 := by
  rw [E_X10_path] at h
  by_cases k : kd s 188 = 10
  · exact k
  · exfalso
    simp [fI, fZ, wL, k] at h
theorem kq_look {s : MH} {r : MO} (h : M_X10_look [mR (some 188)] s = some r) : kd s 188 = 10 := by
  rw [E_X10_look] at h
  by_cases k : kd s 188 = 10
  · exact k
  · exfalso
    simp [fI, fZ, wL, k] at h
theorem kq_make {s : MH} {x0 : Int32} {r : MO} (h : M_X10_make [mR (some 188), mI x0] s = some r) : kd s 188 = 10 := by
  rw [E_X10_make] at h
  by_cases k : kd s 188 = 10
  · exact k
  · exfalso
    simp [fI, fZ, wL, k] at h
theorem kq_remove {s : MH} {r : MO} (h : M_X10_remove [mR (some 188)] s = some r) : kd s 188 = 10 := by
  rw [E_X10_remove] at h
  by_cases k : kd s 188 = 10
  · exact k
  · exfalso
    simp [fI, fZ, wL, k] at h
theorem kq_rename {s : MH} {r : MO} (h : M_X10_rename [mR (some 188)] s = some r) : kd s 188 = 10 := by
  rw [E_X10_rename] at h
  by_cases k : kd s 188 = 10
  · exact k
  · exfalso
    simp [fI, fZ, wL, k] at h
theorem kq_open {s : MH} {r : MO} (h : M_X10_open [mR (some 188)] s = some r) : kd s 188 = 10 := by
  rw [E_X10_open] at h
  by_cases k : kd s 188 = 10
  · exact k
  · exfalso
    simp [fI, fZ, wL, k] at h
theorem kq_close {s : MH} {x0 : Int32} {r : MO} (h : M_X10_close [mR (some 188), mI x0] s = some r) : kd s 188 = 10 := by
  rw [E_X10_close] at h
  by_cases k : kd s 188 = 10
  · exact k
  · exfalso
    simp [fI, fZ, wL, k] at h
theorem kq_mount {s : MH} {x0 : Int32} {r : MO} (h : M_X10_mount [mR (some 188), mI x0] s = some r) : kd s 188 = 10 := by
  rw [E_X10_mount] at h
  by_cases k : kd s 188 = 10
  · exact k
  · exfalso
    simp [fI, fZ, wL, k] at h
theorem kq_unmount {s : MH} {x0 : Int32} {r : MO} (h : M_X10_unmount [mR (some 188), mI x0] s = some r) : kd s 188 = 10 := by
  rw [E_X10_unmount] at h
  by_cases k : kd s 188 = 10
  · exact k
  · exfalso
    simp [fI, fZ, wL, k] at h
theorem kq_trim {s : MH} {x0 : Int32} {r : MO} (h : M_X10_trim [mR (some 188), mI x0] s = some r) : kd s 188 = 10 := by
  rw [E_X10_trim] at h
  by_cases k : kd s 188 = 10
  · exact k
  · exfalso
    simp [fI, fZ, wL, k] at h
theorem kq_room {s : MH} {x0 : Int32} {r : MO} (h : M_X10_room [mR (some 188), mI x0] s = some r) : kd s 188 = 10 := by
  rw [E_X10_room] at h
  by_cases k : kd s 188 = 10
  · exact k
  · exfalso
    simp [fI, fZ, wL, k] at h
theorem kq_chance {s : MH} {x0 : Int32} {r : MO} (h : M_X10_chance [mR (some 188), mI x0] s = some r) : kd s 188 = 10 := by
  rw [E_X10_chance] at h
  by_cases k : kd s 188 = 10
  · exact k
  · exfalso
    simp [fI, fZ, wL, k] at h
theorem kq_begin {s : MH} {r : MO} (h : M_X10_begin [mR (some 188)] s = some r) : kd s 188 = 10 := by
  rw [E_X10_begin] at h
  by_cases k : kd s 188 = 10
  · exact k
  · exfalso
    simp [fI, fZ, wL, k] at h
theorem kq_step {s : MH} {x0 : Int32} {r : MO} (h : M_X10_step [mR (some 188), mI x0] s = some r) : kd s 188 = 10 := by
  rw [E_X10_step] at h
  by_cases k : kd s 188 = 10
  · exact k
  · exfalso
    simp [fI, fZ, wL, k] at h
theorem kq_result {s : MH} {x0 : Int32} {r : MO} (h : M_X10_result [mR (some 188), mI x0] s = some r) : kd s 188 = 10 := by
  rw [E_X10_result] at h
  by_cases k : kd s 188 = 10
  · exact k
  · exfalso
    simp [fI, fZ, wL, k] at h
theorem kq_quit {s : MH} {x0 : Int32} {r : MO} (h : M_X10_quit [mR (some 188), mI x0] s = some r) : kd s 188 = 10 := by
  rw [E_X10_quit] at h
  by_cases k : kd s 188 = 10
  · exact k
  · exfalso
    simp [fI, fZ, wL, k] at h
theorem kq_trace {s : MH} {r : MO} (h : M_X10_trace [mR (some 188)] s = some r) : kd s 188 = 10 := by
  rw [E_X10_trace] at h
  by_cases k : kd s 188 = 10
  · exact k
  · exfalso
    simp [fI, fZ, wL, k] at h
theorem kq_loads {s : MH} {x0 : Int32} {r : MO} (h : M_X10_loads [mR (some 188), mI x0] s = some r) : kd s 188 = 10 := by
  rw [E_X10_loads] at h
  by_cases k : kd s 188 = 10
  · exact k
  · exfalso
    simp [fI, fZ, wL, k] at h
theorem kq_least {s : MH} {x0 : Int32} {r : MO} (h : M_X10_least [mR (some 188), mI x0] s = some r) : kd s 188 = 10 := by
  rw [E_X10_least] at h
  rw [E_X10_least_2, if_neg (show ¬ (40 : Int32) < 4 by decide)] at h
  by_cases k : kd s 188 = 10
  · exact k
  · exfalso
    simp [fI, fZ, wL, k] at h
theorem kq_see {s : MH} {x0 : Int32} {r : MO} (h : M_X10_see [mR (some 188), mI x0] s = some r) : kd s 188 = 10 := by
  rw [E_X10_see] at h
  by_cases k : kd s 188 = 10
  · exact k
  · exfalso
    simp [fI, fZ, wL, k] at h
theorem kq_fits {s : MH} {x0 : Int32} {r : MO} (h : M_X10_fits [mR (some 188), mI x0] s = some r) : kd s 188 = 10 := by
  rw [E_X10_fits] at h
  by_cases k : kd s 188 = 10
  · exact k
  · exfalso
    simp [fI, fZ, wL, k] at h
theorem kq_tells {s : MH} {x0 : Int32} {r : MO} (h : M_X10_tells [mR (some 188), mI x0] s = some r) : kd s 188 = 10 := by
  rw [E_X10_tells] at h
  by_cases k : kd s 188 = 10
  · exact k
  · exfalso
    simp [fI, fZ, wL, k] at h
theorem kq_undo {s : MH} {r : MO} (h : M_X10_undo [mR (some 188)] s = some r) : kd s 188 = 10 := by
  rw [E_X10_undo] at h
  by_cases k : kd s 188 = 10
  · exact k
  · exfalso
    simp [fI, fZ, wL, k] at h
theorem kq_seed {s : MH} {x0 : Int32} {r : MO} (h : M_X10_seed [mR (some 188), mI x0] s = some r) : kd s 188 = 10 := by
  rw [E_X10_seed] at h
  by_cases k : kd s 188 = 10
  · exact k
  · exfalso
    simp [fI, fZ, wL, k] at h
theorem St.room {I : MI} {J : MJ} {T B0 : Nat} (h : St I J T B0) : jC J ≤ 1108 ∧ jB J ≤ B0 + 23860 := by
  have : ∃ ad, Rm J ad B0 := by
    rcases h.2.2.2.2.2.2.2.2.2 with ⟨vol, ad, q, r, _, _, _, hs⟩ | ⟨_, _, _, _, ad, q, hs⟩
    · exact ⟨ad, hs.2.2.2.1⟩
    · exact ⟨ad, hs.2.2.2.1⟩
  obtain ⟨ad, r1, r2⟩ := this
  have := cnt_le (fun s => (ad s).isSome) 20 0
  rw [r1, r2]
  omega
/-- a pair, with whose the reference is -/
def Pk (I : MI) (J : MJ) (T B0 : Nat) (f g : MH → Option MO) (v w : Int32) (s1 : MH) (I2 : MI) (J2 : MJ) : Prop := f (I, J) = some (some (mI v), s1) ∧ g s1 = some (some (mI w), (I2, J2)) ∧ St I2 J2 (T + 10001) B0 ∧ kd s1 188 = 10
theorem pq_feed {I : MI} {J : MJ} {T B0 : Nat} (h : St I J T B0) (h30 : T + 10001 ≤ 1000000000) (x0 x1 x2 x3 x4 : Int32) : ∃ v s1 I2 J2, Pk I J T B0 (M_X9_feed [mR (some 0), mI x0, mI x1, mI x2, mI x3, mI x4]) (M_X10_feed [mR (some 188), mI x0, mI x1, mI x2, mI x3, mI x4]) v v s1 I2 J2 := by
  obtain ⟨v, s1, I2, J2, a, b, c⟩ := P_feed h h30 x0 x1 x2 x3 x4
  exact ⟨v, s1, I2, J2, a, b, c, kq_feed b⟩
theorem pq_end {I : MI} {J : MJ} {T B0 : Nat} (h : St I J T B0) (h30 : T + 10001 ≤ 1000000000) (x0 : Int32) : ∃ v s1 I2 J2, Pk I J T B0 (M_X9_end [mR (some 0), mI x0]) (M_X10_end [mR (some 188), mI x0]) v v s1 I2 J2 := by
  obtain ⟨v, s1, I2, J2, a, b, c⟩ := P_end h h30 x0
  exact ⟨v, s1, I2, J2, a, b, c, kq_end b⟩
theorem pq_trees {I : MI} {J : MJ} {T B0 : Nat} (h : St I J T B0) (h30 : T + 10001 ≤ 1000000000) : ∃ v s1 I2 J2, Pk I J T B0 (M_X9_trees [mR (some 0)]) (M_X10_trees [mR (some 188)]) v v s1 I2 J2 := by
  obtain ⟨v, s1, I2, J2, a, b, c⟩ := P_trees h h30
  exact ⟨v, s1, I2, J2, a, b, c, kq_trees b⟩
theorem pq_fault {I : MI} {J : MJ} {T B0 : Nat} (h : St I J T B0) (h30 : T + 10001 ≤ 1000000000) (x0 : Int32) (e1 : I 9 1 = I 188 6) (e2 : I 9 2 = I 188 7) : ∃ v s1 I2 J2, Pk I J T B0 (M_X9_fault [mR (some 0), mI x0]) (M_X10_fault [mR (some 188), mI x0]) v v s1 I2 J2 := by
  obtain ⟨v, s1, I2, J2, a, b, c⟩ := P_fault h h30 x0 e1 e2
  have u := u_fault h.1.1 I x0
  rw [u] at a
  have e := congrArg (fun o : Option MO => o.map (fun q => q.2)) a
  simp only [Option.map_some, Option.some.injEq] at e
  exact ⟨v, s1, I2, J2, by rw [u]; exact a, b, c, by rw [← e]; exact h.1.2.k⟩
theorem pw_fault {I : MI} {J : MJ} {T B0 : Nat} (h : St I J T B0) (h30 : T + 10001 ≤ 1000000000) (x0 : Int32) : ∃ v w s1 I2 J2, Pk I J T B0 (M_X9_fault [mR (some 0), mI x0]) (M_X10_fault [mR (some 188), mI x0]) v w s1 I2 J2 :=
  ⟨_, _, _, I, J, u_fault h.1.1 I x0, w_fault h.1.2 I x0, h.mono (by omega) h30, h.1.2.k⟩
theorem pq_has {I : MI} {J : MJ} {T B0 : Nat} (h : St I J T B0) (h30 : T + 10001 ≤ 1000000000) (x0 : Int32) : ∃ v s1 I2 J2, Pk I J T B0 (M_X9_has [mR (some 0), mI x0]) (M_X10_has [mR (some 188), mI x0]) v v s1 I2 J2 := by
  obtain ⟨v, s1, I2, J2, a, b, c⟩ := P_has h h30 x0
  have u := u_has h.1.1 I x0
  rw [u] at a
  have e := congrArg (fun o : Option MO => o.map (fun q => q.2)) a
  simp only [Option.map_some, Option.some.injEq] at e
  exact ⟨v, s1, I2, J2, by rw [u]; exact a, b, c, by rw [← e]; exact h.1.2.k⟩
theorem pq_node {I : MI} {J : MJ} {T B0 : Nat} (h : St I J T B0) (h30 : T + 10001 ≤ 1000000000) (x0 x1 : Int32) : ∃ v s1 I2 J2, Pk I J T B0 (M_X9_node [mR (some 0), mI x0, mI x1]) (M_X10_node [mR (some 188), mI x0, mI x1]) v v s1 I2 J2 := by
  obtain ⟨v, s1, I2, J2, a, b, c⟩ := P_node h h30 x0 x1
  exact ⟨v, s1, I2, J2, a, b, c, kq_node b⟩
theorem pq_letter {I : MI} {J : MJ} {T B0 : Nat} (h : St I J T B0) (h30 : T + 10001 ≤ 1000000000) (x0 x1 x2 : Int32) : ∃ v s1 I2 J2, Pk I J T B0 (M_X9_letter [mR (some 0), mI x0, mI x1, mI x2]) (M_X10_letter [mR (some 188), mI x0, mI x1, mI x2]) v v s1 I2 J2 := by
  obtain ⟨v, s1, I2, J2, a, b, c⟩ := P_letter h h30 x0 x1 x2
  have u := u_letter h.1.1 I x0 x1 x2
  rw [u] at a
  have e := congrArg (fun o : Option MO => o.map (fun q => q.2)) a
  simp only [Option.map_some, Option.some.injEq] at e
  exact ⟨v, s1, I2, J2, by rw [u]; exact a, b, c, by rw [← e]; exact h.1.2.k⟩
theorem pq_entry {I : MI} {J : MJ} {T B0 : Nat} (h : St I J T B0) (h30 : T + 10001 ≤ 1000000000) (x0 x1 : Int32) : ∃ v s1 I2 J2, Pk I J T B0 (M_X9_entry [mR (some 0), mI x0, mI x1]) (M_X10_entry [mR (some 188), mI x0, mI x1]) v v s1 I2 J2 := by
  obtain ⟨v, s1, I2, J2, a, b, c⟩ := P_entry h h30 x0 x1
  exact ⟨v, s1, I2, J2, a, b, c, kq_entry b⟩
theorem pq_child {I : MI} {J : MJ} {T B0 : Nat} (h : St I J T B0) (h30 : T + 10001 ≤ 1000000000) (x0 : Int32) : ∃ v s1 I2 J2, Pk I J T B0 (M_X9_child [mR (some 0), mI x0]) (M_X10_child [mR (some 188), mI x0]) v v s1 I2 J2 := by
  obtain ⟨v, s1, I2, J2, a, b, c⟩ := P_child h h30 x0
  exact ⟨v, s1, I2, J2, a, b, c, kq_child b⟩
theorem pq_walker {I : MI} {J : MJ} {T B0 : Nat} (h : St I J T B0) (h30 : T + 10001 ≤ 1000000000) (x0 x1 : Int32) : ∃ v s1 I2 J2, Pk I J T B0 (M_X9_walker [mR (some 0), mI x0, mI x1]) (M_X10_walker [mR (some 188), mI x0, mI x1]) v v s1 I2 J2 := by
  obtain ⟨v, s1, I2, J2, a, b, c⟩ := P_walker h h30 x0 x1
  exact ⟨v, s1, I2, J2, a, b, c, kq_walker b⟩
theorem pq_handle {I : MI} {J : MJ} {T B0 : Nat} (h : St I J T B0) (h30 : T + 10001 ≤ 1000000000) (x0 : Int32) : ∃ v s1 I2 J2, Pk I J T B0 (M_X9_handle [mR (some 0), mI x0]) (M_X10_handle [mR (some 188), mI x0]) v v s1 I2 J2 := by
  obtain ⟨v, s1, I2, J2, a, b, c⟩ := P_handle h h30 x0
  exact ⟨v, s1, I2, J2, a, b, c, kq_handle b⟩
theorem pq_where {I : MI} {J : MJ} {T B0 : Nat} (h : St I J T B0) (h30 : T + 10001 ≤ 1000000000) : ∃ v s1 I2 J2, Pk I J T B0 (M_X9_where [mR (some 0)]) (M_X10_where [mR (some 188)]) v v s1 I2 J2 := by
  obtain ⟨v, s1, I2, J2, a, b, c⟩ := P_where h h30
  exact ⟨v, s1, I2, J2, a, b, c, kq_where b⟩
theorem pq_needs {I : MI} {J : MJ} {T B0 : Nat} (h : St I J T B0) (h30 : T + 10001 ≤ 1000000000) : ∃ v s1 I2 J2, Pk I J T B0 (M_X9_needs [mR (some 0)]) (M_X10_needs [mR (some 188)]) v v s1 I2 J2 := by
  obtain ⟨v, s1, I2, J2, a, b, c⟩ := P_needs h h30
  exact ⟨v, s1, I2, J2, a, b, c, kq_needs b⟩
theorem pq_victim {I : MI} {J : MJ} {T B0 : Nat} (h : St I J T B0) (h30 : T + 10001 ≤ 1000000000) (x0 : Int32) : ∃ v s1 I2 J2, Pk I J T B0 (M_X9_victim [mR (some 0), mI x0]) (M_X10_victim [mR (some 188), mI x0]) v v s1 I2 J2 := by
  obtain ⟨v, s1, I2, J2, a, b, c⟩ := P_victim h h30 x0
  exact ⟨v, s1, I2, J2, a, b, c, kq_victim b⟩
theorem pq_path {I : MI} {J : MJ} {T B0 : Nat} (h : St I J T B0) (h30 : T + 10001 ≤ 1000000000) (x0 : Int32) : ∃ v s1 I2 J2, Pk I J T B0 (M_X9_path [mR (some 0), mI x0]) (M_X10_path [mR (some 188), mI x0]) v v s1 I2 J2 := by
  obtain ⟨v, s1, I2, J2, a, b, c⟩ := P_path h h30 x0
  exact ⟨v, s1, I2, J2, a, b, c, kq_path b⟩
theorem pq_octet {I : MI} {J : MJ} {T B0 : Nat} (h : St I J T B0) (h30 : T + 10001 ≤ 1000000000) (x0 : Int32) : ∃ v s1 I2 J2, Pk I J T B0 (M_X9_octet [mR (some 0), mI x0]) (M_X10_octet [mR (some 188), mI x0]) v v s1 I2 J2 := by
  obtain ⟨v, s1, I2, J2, a, b, c⟩ := P_octet h h30 x0
  have u := u_octet h.1.1 I x0
  rw [u] at a
  have e := congrArg (fun o : Option MO => o.map (fun q => q.2)) a
  simp only [Option.map_some, Option.some.injEq] at e
  exact ⟨v, s1, I2, J2, by rw [u]; exact a, b, c, by rw [← e]; exact h.1.2.k⟩
theorem pq_look {I : MI} {J : MJ} {T B0 : Nat} (h : St I J T B0) (h30 : T + 10001 ≤ 1000000000) : ∃ v s1 I2 J2, Pk I J T B0 (M_X9_look [mR (some 0)]) (M_X10_look [mR (some 188)]) v v s1 I2 J2 := by
  obtain ⟨v, s1, I2, J2, a, b, c⟩ := P_look h h30
  exact ⟨v, s1, I2, J2, a, b, c, kq_look b⟩
theorem pq_make {I : MI} {J : MJ} {T B0 : Nat} (h : St I J T B0) (h30 : T + 10001 ≤ 1000000000) (x0 : Int32) : ∃ v s1 I2 J2, Pk I J T B0 (M_X9_make [mR (some 0), mI x0]) (M_X10_make [mR (some 188), mI x0]) v v s1 I2 J2 := by
  obtain ⟨v, s1, I2, J2, a, b, c⟩ := P_make h h30 x0
  exact ⟨v, s1, I2, J2, a, b, c, kq_make b⟩
theorem pq_remove {I : MI} {J : MJ} {T B0 : Nat} (h : St I J T B0) (h30 : T + 10001 ≤ 1000000000) : ∃ v s1 I2 J2, Pk I J T B0 (M_X9_remove [mR (some 0)]) (M_X10_remove [mR (some 188)]) v v s1 I2 J2 := by
  obtain ⟨v, s1, I2, J2, a, b, c⟩ := P_remove h h30
  exact ⟨v, s1, I2, J2, a, b, c, kq_remove b⟩
theorem pq_rename {I : MI} {J : MJ} {T B0 : Nat} (h : St I J T B0) (h30 : T + 10001 ≤ 1000000000) : ∃ v s1 I2 J2, Pk I J T B0 (M_X9_rename [mR (some 0)]) (M_X10_rename [mR (some 188)]) v v s1 I2 J2 := by
  obtain ⟨v, s1, I2, J2, a, b, c⟩ := P_rename h h30
  exact ⟨v, s1, I2, J2, a, b, c, kq_rename b⟩
theorem pq_open {I : MI} {J : MJ} {T B0 : Nat} (h : St I J T B0) (h30 : T + 10001 ≤ 1000000000) : ∃ v s1 I2 J2, Pk I J T B0 (M_X9_open [mR (some 0)]) (M_X10_open [mR (some 188)]) v v s1 I2 J2 := by
  obtain ⟨v, s1, I2, J2, a, b, c⟩ := P_open h h30
  exact ⟨v, s1, I2, J2, a, b, c, kq_open b⟩
theorem pq_close {I : MI} {J : MJ} {T B0 : Nat} (h : St I J T B0) (h30 : T + 10001 ≤ 1000000000) (x0 : Int32) : ∃ v s1 I2 J2, Pk I J T B0 (M_X9_close [mR (some 0), mI x0]) (M_X10_close [mR (some 188), mI x0]) v v s1 I2 J2 := by
  obtain ⟨v, s1, I2, J2, a, b, c⟩ := P_close h h30 x0
  exact ⟨v, s1, I2, J2, a, b, c, kq_close b⟩
theorem pq_mount {I : MI} {J : MJ} {T B0 : Nat} (h : St I J T B0) (h30 : T + 10001 ≤ 1000000000) (x0 : Int32) : ∃ v s1 I2 J2, Pk I J T B0 (M_X9_mount [mR (some 0), mI x0]) (M_X10_mount [mR (some 188), mI x0]) v v s1 I2 J2 := by
  obtain ⟨v, s1, I2, J2, a, b, c⟩ := P_mount h h30 x0
  exact ⟨v, s1, I2, J2, a, b, c, kq_mount b⟩
theorem pq_unmount {I : MI} {J : MJ} {T B0 : Nat} (h : St I J T B0) (h30 : T + 10001 ≤ 1000000000) (x0 : Int32) : ∃ v s1 I2 J2, Pk I J T B0 (M_X9_unmount [mR (some 0), mI x0]) (M_X10_unmount [mR (some 188), mI x0]) v v s1 I2 J2 := by
  obtain ⟨v, s1, I2, J2, a, b, c⟩ := P_unmount h h30 x0
  exact ⟨v, s1, I2, J2, a, b, c, kq_unmount b⟩
theorem pq_trim {I : MI} {J : MJ} {T B0 : Nat} (h : St I J T B0) (h30 : T + 10001 ≤ 1000000000) (x0 : Int32) : ∃ v s1 I2 J2, Pk I J T B0 (M_X9_trim [mR (some 0), mI x0]) (M_X10_trim [mR (some 188), mI x0]) v v s1 I2 J2 := by
  obtain ⟨v, s1, I2, J2, a, b, c⟩ := P_trim h h30 x0
  exact ⟨v, s1, I2, J2, a, b, c, kq_trim b⟩
theorem pq_room {I : MI} {J : MJ} {T B0 : Nat} (h : St I J T B0) (h30 : T + 10001 ≤ 1000000000) (x0 : Int32) : ∃ v s1 I2 J2, Pk I J T B0 (M_X9_room [mR (some 0), mI x0]) (M_X10_room [mR (some 188), mI x0]) v v s1 I2 J2 := by
  obtain ⟨v, s1, I2, J2, a, b, c⟩ := P_room h h30 x0
  exact ⟨v, s1, I2, J2, a, b, c, kq_room b⟩
theorem pq_chance {I : MI} {J : MJ} {T B0 : Nat} (h : St I J T B0) (h30 : T + 10001 ≤ 1000000000) (x0 : Int32) : ∃ v s1 I2 J2, Pk I J T B0 (M_X9_chance [mR (some 0), mI x0]) (M_X10_chance [mR (some 188), mI x0]) v v s1 I2 J2 := by
  obtain ⟨v, s1, I2, J2, a, b, c⟩ := P_chance h h30 x0
  exact ⟨v, s1, I2, J2, a, b, c, kq_chance b⟩
theorem pq_begin {I : MI} {J : MJ} {T B0 : Nat} (h : St I J T B0) (h30 : T + 10001 ≤ 1000000000) : ∃ v s1 I2 J2, Pk I J T B0 (M_X9_begin [mR (some 0)]) (M_X10_begin [mR (some 188)]) v v s1 I2 J2 := by
  obtain ⟨v, s1, I2, J2, a, b, c⟩ := P_begin h h30
  exact ⟨v, s1, I2, J2, a, b, c, kq_begin b⟩
theorem pq_step {I : MI} {J : MJ} {T B0 : Nat} (h : St I J T B0) (h30 : T + 10001 ≤ 1000000000) (x0 : Int32) : ∃ v s1 I2 J2, Pk I J T B0 (M_X9_step [mR (some 0), mI x0]) (M_X10_step [mR (some 188), mI x0]) v v s1 I2 J2 := by
  obtain ⟨v, s1, I2, J2, a, b, c⟩ := P_step h h30 x0
  exact ⟨v, s1, I2, J2, a, b, c, kq_step b⟩
theorem pq_result {I : MI} {J : MJ} {T B0 : Nat} (h : St I J T B0) (h30 : T + 10001 ≤ 1000000000) (x0 : Int32) : ∃ v s1 I2 J2, Pk I J T B0 (M_X9_result [mR (some 0), mI x0]) (M_X10_result [mR (some 188), mI x0]) v v s1 I2 J2 := by
  obtain ⟨v, s1, I2, J2, a, b, c⟩ := P_result h h30 x0
  exact ⟨v, s1, I2, J2, a, b, c, kq_result b⟩
theorem pq_quit {I : MI} {J : MJ} {T B0 : Nat} (h : St I J T B0) (h30 : T + 10001 ≤ 1000000000) (x0 : Int32) : ∃ v s1 I2 J2, Pk I J T B0 (M_X9_quit [mR (some 0), mI x0]) (M_X10_quit [mR (some 188), mI x0]) v v s1 I2 J2 := by
  obtain ⟨v, s1, I2, J2, a, b, c⟩ := P_quit h h30 x0
  exact ⟨v, s1, I2, J2, a, b, c, kq_quit b⟩
theorem pq_trace {I : MI} {J : MJ} {T B0 : Nat} (h : St I J T B0) (h30 : T + 10001 ≤ 1000000000) : ∃ v s1 I2 J2, Pk I J T B0 (M_X9_trace [mR (some 0)]) (M_X10_trace [mR (some 188)]) v v s1 I2 J2 := by
  obtain ⟨v, s1, I2, J2, a, b, c⟩ := P_trace h h30
  exact ⟨v, s1, I2, J2, a, b, c, kq_trace b⟩
theorem pq_loads {I : MI} {J : MJ} {T B0 : Nat} (h : St I J T B0) (h30 : T + 10001 ≤ 1000000000) (x0 : Int32) : ∃ v s1 I2 J2, Pk I J T B0 (M_X9_loads [mR (some 0), mI x0]) (M_X10_loads [mR (some 188), mI x0]) v v s1 I2 J2 := by
  obtain ⟨v, s1, I2, J2, a, b, c⟩ := P_loads h h30 x0
  exact ⟨v, s1, I2, J2, a, b, c, kq_loads b⟩
theorem pq_least {I : MI} {J : MJ} {T B0 : Nat} (h : St I J T B0) (h30 : T + 10001 ≤ 1000000000) (x0 : Int32) : ∃ v s1 I2 J2, Pk I J T B0 (M_X9_least [mR (some 0), mI x0]) (M_X10_least [mR (some 188), mI x0]) v v s1 I2 J2 := by
  obtain ⟨v, s1, I2, J2, a, b, c⟩ := P_least h h30 x0
  exact ⟨v, s1, I2, J2, a, b, c, kq_least b⟩
theorem pq_see {I : MI} {J : MJ} {T B0 : Nat} (h : St I J T B0) (h30 : T + 10001 ≤ 1000000000) (x0 : Int32) : ∃ v s1 I2 J2, Pk I J T B0 (M_X9_see [mR (some 0), mI x0]) (M_X10_see [mR (some 188), mI x0]) v v s1 I2 J2 := by
  obtain ⟨v, s1, I2, J2, a, b, c⟩ := P_see h h30 x0
  exact ⟨v, s1, I2, J2, a, b, c, kq_see b⟩
theorem pq_fits {I : MI} {J : MJ} {T B0 : Nat} (h : St I J T B0) (h30 : T + 10001 ≤ 1000000000) (x0 : Int32) : ∃ v s1 I2 J2, Pk I J T B0 (M_X9_fits [mR (some 0), mI x0]) (M_X10_fits [mR (some 188), mI x0]) v v s1 I2 J2 := by
  obtain ⟨v, s1, I2, J2, a, b, c⟩ := P_fits h h30 x0
  exact ⟨v, s1, I2, J2, a, b, c, kq_fits b⟩
theorem pq_tells {I : MI} {J : MJ} {T B0 : Nat} (h : St I J T B0) (h30 : T + 10001 ≤ 1000000000) (x0 : Int32) : ∃ v s1 I2 J2, Pk I J T B0 (M_X9_tells [mR (some 0), mI x0]) (M_X10_tells [mR (some 188), mI x0]) v v s1 I2 J2 := by
  obtain ⟨v, s1, I2, J2, a, b, c⟩ := P_tells h h30 x0
  exact ⟨v, s1, I2, J2, a, b, c, kq_tells b⟩
theorem pq_undo {I : MI} {J : MJ} {T B0 : Nat} (h : St I J T B0) (h30 : T + 10001 ≤ 1000000000) : ∃ v s1 I2 J2, Pk I J T B0 (M_X9_undo [mR (some 0)]) (M_X10_undo [mR (some 188)]) v v s1 I2 J2 := by
  obtain ⟨v, s1, I2, J2, a, b, c⟩ := P_undo h h30
  exact ⟨v, s1, I2, J2, a, b, c, kq_undo b⟩
theorem pq_seed {I : MI} {J : MJ} {T B0 : Nat} (h : St I J T B0) (h30 : T + 10001 ≤ 1000000000) (x0 : Int32) : ∃ v s1 I2 J2, Pk I J T B0 (M_X9_seed [mR (some 0), mI x0]) (M_X10_seed [mR (some 188), mI x0]) v v s1 I2 J2 := by
  obtain ⟨v, s1, I2, J2, a, b, c⟩ := P_seed h h30 x0
  exact ⟨v, s1, I2, J2, a, b, c, kq_seed b⟩
theorem pq_status {I : MI} {J : MJ} {T B0 : Nat} (h : St I J T B0) (h30 : T + 10001 ≤ 1000000000) (x0 : Int32) : ∃ v s1 I2 J2, Pk I J T B0 (M_X9_status [mR (some 0), mI x0]) (M_X10_status [mR (some 188), mI x0]) v v s1 I2 J2 := by
  obtain ⟨v, s1, I2, J2, a, b, c⟩ := P_status h h30 x0
  have u := u_status h.1.1 I x0
  rw [u] at a
  have e := congrArg (fun o : Option MO => o.map (fun q => q.2)) a
  simp only [Option.map_some, Option.some.injEq] at e
  exact ⟨v, s1, I2, J2, by rw [u]; exact a, b, c, by rw [← e]; exact h.1.2.k⟩
end
section
/-! The law's loop and its start. Written by wip/gen/law.py. -/
theorem sw40 {P : Nat → Prop} (h0 : P 0) (h1 : P 1) (h2 : P 2) (h3 : P 3) (h4 : P 4) (h5 : P 5) (h6 : P 6) (h7 : P 7) (h8 : P 8) (h9 : P 9) (h10 : P 10) (h11 : P 11) (h12 : P 12) (h13 : P 13) (h14 : P 14) (h15 : P 15) (h16 : P 16) (h17 : P 17) (h18 : P 18) (h19 : P 19) (h20 : P 20) (h21 : P 21) (h22 : P 22) (h23 : P 23) (h24 : P 24) (h25 : P 25) (h26 : P 26) (h27 : P 27) (h28 : P 28) (h29 : P 29) (h30 : P 30) (h31 : P 31) (h32 : P 32) (h33 : P 33) (h34 : P 34) (h35 : P 35) (h36 : P 36) (h37 : P 37) (h38 : P 38) (h39 : P 39) : ∀ k, k < 40 → P k
  | 0, _ => h0
  | 1, _ => h1
  | 2, _ => h2
  | 3, _ => h3
  | 4, _ => h4
  | 5, _ => h5
  | 6, _ => h6
  | 7, _ => h7
  | 8, _ => h8
  | 9, _ => h9
  | 10, _ => h10
  | 11, _ => h11
  | 12, _ => h12
  | 13, _ => h13
  | 14, _ => h14
  | 15, _ => h15
  | 16, _ => h16
  | 17, _ => h17
  | 18, _ => h18
  | 19, _ => h19
  | 20, _ => h20
  | 21, _ => h21
  | 22, _ => h22
  | 23, _ => h23
  | 24, _ => h24
  | 25, _ => h25
  | 26, _ => h26
  | 27, _ => h27
  | 28, _ => h28
  | 29, _ => h29
  | 30, _ => h30
  | 31, _ => h31
  | 32, _ => h32
  | 33, _ => h33
  | 34, _ => h34
  | 35, _ => h35
  | 36, _ => h36
  | 37, _ => h37
  | 38, _ => h38
  | 39, _ => h39
  | n + 40, h => absurd h (by omega)
/-- one call of the script -/
theorem law_turn {X : LT} {L : Nat} {xs : Nat → Int32} (C : LX X L xs) {i : Nat} (hi : i + 6 ≤ L) {I : MI} {J : MJ} {T B0 : Nat} (h : St I J T B0) (hB : B0 ≤ 1000000) (h30 : T + 10001 ≤ 1000000000) (nx : ∀ I2 J2, St I2 J2 (T + 10001) B0 → Gl X i 1150 [] (I2, J2)) : Gl X i 27 [] (I, J) := by
  refine gl_switch C (tg := fun k => ([208, 271, 294, 307, 330, 353, 386, 445, 478, 501, 534, 557, 570, 583, 606, 629, 652, 665, 704, 717, 730, 743, 766, 789, 812, 835, 858, 881, 894, 917, 940, 963, 976, 999, 1022, 1045, 1068, 1091, 1104, 1127] : List Nat).getD k 0) hi d_27 d_28 d_29 d_30 d_32 d_33 (by decide) (by decide +kernel) (nx I J (h.mono (by omega) h30)) ?_
  exact sw40 (by
      obtain ⟨v, s1, I2, J2, a, b, c, k⟩ := pq_feed h h30 (xs (i + 1)) (xs (i + 2)) (xs (i + 3)) (xs (i + 4)) (xs (i + 5))
      exact cs_feed C hi h.1.1.k k a b (by have := c.room; show jC J2 ≤ 600000; omega) (by have := c.room; show jB J2 ≤ 7302250; omega) (nx I2 J2 c)) (by
      obtain ⟨v, s1, I2, J2, a, b, c, k⟩ := pq_end h h30 (xs (i + 1))
      exact cs_end C hi h.1.1.k k a b (by have := c.room; show jC J2 ≤ 600000; omega) (by have := c.room; show jB J2 ≤ 7302250; omega) (nx I2 J2 c)) (by
      obtain ⟨v, s1, I2, J2, a, b, c, k⟩ := pq_trees h h30
      exact cs_trees C hi h.1.1.k k a b (by have := c.room; show jC J2 ≤ 600000; omega) (by have := c.room; show jB J2 ≤ 7302250; omega) (nx I2 J2 c)) (by
      obtain ⟨v, w, s1, I2, J2, a, b, c, k⟩ := pw_fault h h30 (xs (i + 1))
      exact cs_fault C hi h.1.1.k k a b (by have := c.room; show jC J2 ≤ 600000; omega) (by have := c.room; show jB J2 ≤ 7302250; omega) (nx I2 J2 c)) (by
      obtain ⟨v, s1, I2, J2, a, b, c, k⟩ := pq_has h h30 (xs (i + 1))
      exact cs_has C hi h.1.1.k k a b (by have := c.room; show jC J2 ≤ 600000; omega) (by have := c.room; show jB J2 ≤ 7302250; omega) (nx I2 J2 c)) (by
      obtain ⟨v, s1, I2, J2, a, b, c, k⟩ := pq_node h h30 (xs (i + 1)) (xs (i + 2))
      exact cs_node C hi h.1.1.k k a b (by have := c.room; show jC J2 ≤ 600000; omega) (by have := c.room; show jB J2 ≤ 7302250; omega) (nx I2 J2 c)) (by
      obtain ⟨v, s1, I2, J2, a, b, c, k⟩ := pq_letter h h30 (if xs (i + 1) = 0 then 0 else 1) (xs (i + 2)) (xs (i + 3))
      exact cs_letter C hi h.1.1.k k a b (by have := c.room; show jC J2 ≤ 600000; omega) (by have := c.room; show jB J2 ≤ 7302250; omega) (nx I2 J2 c)) (by
      obtain ⟨v, s1, I2, J2, a, b, c, k⟩ := pq_entry h h30 (xs (i + 1)) (xs (i + 2))
      exact cs_entry C hi h.1.1.k k a b (by have := c.room; show jC J2 ≤ 600000; omega) (by have := c.room; show jB J2 ≤ 7302250; omega) (nx I2 J2 c)) (by
      obtain ⟨v, s1, I2, J2, a, b, c, k⟩ := pq_child h h30 (xs (i + 1))
      exact cs_child C hi h.1.1.k k a b (by have := c.room; show jC J2 ≤ 600000; omega) (by have := c.room; show jB J2 ≤ 7302250; omega) (nx I2 J2 c)) (by
      obtain ⟨v, s1, I2, J2, a, b, c, k⟩ := pq_walker h h30 (xs (i + 1)) (xs (i + 2))
      exact cs_walker C hi h.1.1.k k a b (by have := c.room; show jC J2 ≤ 600000; omega) (by have := c.room; show jB J2 ≤ 7302250; omega) (nx I2 J2 c)) (by
      obtain ⟨v, s1, I2, J2, a, b, c, k⟩ := pq_handle h h30 (xs (i + 1))
      exact cs_handle C hi h.1.1.k k a b (by have := c.room; show jC J2 ≤ 600000; omega) (by have := c.room; show jB J2 ≤ 7302250; omega) (nx I2 J2 c)) (by
      obtain ⟨v, s1, I2, J2, a, b, c, k⟩ := pq_where h h30
      exact cs_where C hi h.1.1.k k a b (by have := c.room; show jC J2 ≤ 600000; omega) (by have := c.room; show jB J2 ≤ 7302250; omega) (nx I2 J2 c)) (by
      obtain ⟨v, s1, I2, J2, a, b, c, k⟩ := pq_needs h h30
      exact cs_needs C hi h.1.1.k k a b (by have := c.room; show jC J2 ≤ 600000; omega) (by have := c.room; show jB J2 ≤ 7302250; omega) (nx I2 J2 c)) (by
      obtain ⟨v, s1, I2, J2, a, b, c, k⟩ := pq_victim h h30 (xs (i + 1))
      exact cs_victim C hi h.1.1.k k a b (by have := c.room; show jC J2 ≤ 600000; omega) (by have := c.room; show jB J2 ≤ 7302250; omega) (nx I2 J2 c)) (by
      obtain ⟨v, s1, I2, J2, a, b, c, k⟩ := pq_path h h30 (xs (i + 1))
      exact cs_path C hi h.1.1.k k a b (by have := c.room; show jC J2 ≤ 600000; omega) (by have := c.room; show jB J2 ≤ 7302250; omega) (nx I2 J2 c)) (by
      obtain ⟨v, s1, I2, J2, a, b, c, k⟩ := pq_octet h h30 (xs (i + 1))
      exact cs_octet C hi h.1.1.k k a b (by have := c.room; show jC J2 ≤ 600000; omega) (by have := c.room; show jB J2 ≤ 7302250; omega) (nx I2 J2 c)) (by
      obtain ⟨v, s1, I2, J2, a, b, c, k⟩ := pq_look h h30
      exact cs_look C hi h.1.1.k k a b (by have := c.room; show jC J2 ≤ 600000; omega) (by have := c.room; show jB J2 ≤ 7302250; omega) (nx I2 J2 c)) (by
      obtain ⟨v, s1, I2, J2, a, b, c, k⟩ := pq_make h h30 (if xs (i + 1) = 0 then 0 else 1)
      exact cs_make C hi h.1.1.k k a b (by have := c.room; show jC J2 ≤ 600000; omega) (by have := c.room; show jB J2 ≤ 7302250; omega) (nx I2 J2 c)) (by
      obtain ⟨v, s1, I2, J2, a, b, c, k⟩ := pq_remove h h30
      exact cs_remove C hi h.1.1.k k a b (by have := c.room; show jC J2 ≤ 600000; omega) (by have := c.room; show jB J2 ≤ 7302250; omega) (nx I2 J2 c)) (by
      obtain ⟨v, s1, I2, J2, a, b, c, k⟩ := pq_rename h h30
      exact cs_rename C hi h.1.1.k k a b (by have := c.room; show jC J2 ≤ 600000; omega) (by have := c.room; show jB J2 ≤ 7302250; omega) (nx I2 J2 c)) (by
      obtain ⟨v, s1, I2, J2, a, b, c, k⟩ := pq_open h h30
      exact cs_open C hi h.1.1.k k a b (by have := c.room; show jC J2 ≤ 600000; omega) (by have := c.room; show jB J2 ≤ 7302250; omega) (nx I2 J2 c)) (by
      obtain ⟨v, s1, I2, J2, a, b, c, k⟩ := pq_close h h30 (xs (i + 1))
      exact cs_close C hi h.1.1.k k a b (by have := c.room; show jC J2 ≤ 600000; omega) (by have := c.room; show jB J2 ≤ 7302250; omega) (nx I2 J2 c)) (by
      obtain ⟨v, s1, I2, J2, a, b, c, k⟩ := pq_mount h h30 (xs (i + 1))
      exact cs_mount C hi h.1.1.k k a b (by have := c.room; show jC J2 ≤ 600000; omega) (by have := c.room; show jB J2 ≤ 7302250; omega) (nx I2 J2 c)) (by
      obtain ⟨v, s1, I2, J2, a, b, c, k⟩ := pq_unmount h h30 (xs (i + 1))
      exact cs_unmount C hi h.1.1.k k a b (by have := c.room; show jC J2 ≤ 600000; omega) (by have := c.room; show jB J2 ≤ 7302250; omega) (nx I2 J2 c)) (by
      obtain ⟨v, s1, I2, J2, a, b, c, k⟩ := pq_trim h h30 (xs (i + 1))
      exact cs_trim C hi h.1.1.k k a b (by have := c.room; show jC J2 ≤ 600000; omega) (by have := c.room; show jB J2 ≤ 7302250; omega) (nx I2 J2 c)) (by
      obtain ⟨v, s1, I2, J2, a, b, c, k⟩ := pq_room h h30 (xs (i + 1))
      exact cs_room C hi h.1.1.k k a b (by have := c.room; show jC J2 ≤ 600000; omega) (by have := c.room; show jB J2 ≤ 7302250; omega) (nx I2 J2 c)) (by
      obtain ⟨v, s1, I2, J2, a, b, c, k⟩ := pq_chance h h30 (xs (i + 1))
      exact cs_chance C hi h.1.1.k k a b (by have := c.room; show jC J2 ≤ 600000; omega) (by have := c.room; show jB J2 ≤ 7302250; omega) (nx I2 J2 c)) (by
      obtain ⟨v, s1, I2, J2, a, b, c, k⟩ := pq_begin h h30
      exact cs_begin C hi h.1.1.k k a b (by have := c.room; show jC J2 ≤ 600000; omega) (by have := c.room; show jB J2 ≤ 7302250; omega) (nx I2 J2 c)) (by
      obtain ⟨v, s1, I2, J2, a, b, c, k⟩ := pq_step h h30 (xs (i + 1))
      exact cs_step C hi h.1.1.k k a b (by have := c.room; show jC J2 ≤ 600000; omega) (by have := c.room; show jB J2 ≤ 7302250; omega) (nx I2 J2 c)) (by
      obtain ⟨v, s1, I2, J2, a, b, c, k⟩ := pq_result h h30 (xs (i + 1))
      exact cs_result C hi h.1.1.k k a b (by have := c.room; show jC J2 ≤ 600000; omega) (by have := c.room; show jB J2 ≤ 7302250; omega) (nx I2 J2 c)) (by
      obtain ⟨v, s1, I2, J2, a, b, c, k⟩ := pq_quit h h30 (xs (i + 1))
      exact cs_quit C hi h.1.1.k k a b (by have := c.room; show jC J2 ≤ 600000; omega) (by have := c.room; show jB J2 ≤ 7302250; omega) (nx I2 J2 c)) (by
      obtain ⟨v, s1, I2, J2, a, b, c, k⟩ := pq_trace h h30
      exact cs_trace C hi h.1.1.k k a b (by have := c.room; show jC J2 ≤ 600000; omega) (by have := c.room; show jB J2 ≤ 7302250; omega) (nx I2 J2 c)) (by
      obtain ⟨v, s1, I2, J2, a, b, c, k⟩ := pq_loads h h30 (xs (i + 1))
      exact cs_loads C hi h.1.1.k k a b (by have := c.room; show jC J2 ≤ 600000; omega) (by have := c.room; show jB J2 ≤ 7302250; omega) (nx I2 J2 c)) (by
      obtain ⟨v, s1, I2, J2, a, b, c, k⟩ := pq_least h h30 (xs (i + 1))
      exact cs_least C hi h.1.1.k k a b (by have := c.room; show jC J2 ≤ 600000; omega) (by have := c.room; show jB J2 ≤ 7302250; omega) (nx I2 J2 c)) (by
      obtain ⟨v, s1, I2, J2, a, b, c, k⟩ := pq_see h h30 (xs (i + 1))
      exact cs_see C hi h.1.1.k k a b (by have := c.room; show jC J2 ≤ 600000; omega) (by have := c.room; show jB J2 ≤ 7302250; omega) (nx I2 J2 c)) (by
      obtain ⟨v, s1, I2, J2, a, b, c, k⟩ := pq_fits h h30 (xs (i + 1))
      exact cs_fits C hi h.1.1.k k a b (by have := c.room; show jC J2 ≤ 600000; omega) (by have := c.room; show jB J2 ≤ 7302250; omega) (nx I2 J2 c)) (by
      obtain ⟨v, s1, I2, J2, a, b, c, k⟩ := pq_tells h h30 (xs (i + 1))
      exact cs_tells C hi h.1.1.k k a b (by have := c.room; show jC J2 ≤ 600000; omega) (by have := c.room; show jB J2 ≤ 7302250; omega) (nx I2 J2 c)) (by
      obtain ⟨v, s1, I2, J2, a, b, c, k⟩ := pq_undo h h30
      exact cs_undo C hi h.1.1.k k a b (by have := c.room; show jC J2 ≤ 600000; omega) (by have := c.room; show jB J2 ≤ 7302250; omega) (nx I2 J2 c)) (by
      obtain ⟨v, s1, I2, J2, a, b, c, k⟩ := pq_seed h h30 (xs (i + 1))
      exact cs_seed C hi h.1.1.k k a b (by have := c.room; show jC J2 ≤ 600000; omega) (by have := c.room; show jB J2 ≤ 7302250; omega) (nx I2 J2 c)) (by
      obtain ⟨v, s1, I2, J2, a, b, c, k⟩ := pq_status h h30 (xs (i + 1))
      exact cs_status C hi h.1.1.k k a b rfl (by have := c.room; show jC J2 ≤ 600000; omega) (by have := c.room; show jB J2 ≤ 7302250; omega) (nx I2 J2 c))
theorem law_loop {X : LT} {L : Nat} {xs : Nat → Int32} (C : LX X L xs) (hL : L ≤ 3072) {B0 : Nat} (hB : B0 ≤ 1000000) : ∀ (n j : Nat) (I : MI) (J : MJ), j + n = 513 → St I J (10001 * j) B0 → Gl X (6 * j) 18 [] (I, J)
  | n, j, I, J, hn, h => by
    have r := h.room
    refine gl_head C (tg := 1156) (by omega) d_18 d_19 d_20 d_21 d_23 d_24 (by decide) (fun _ => ?_) (fun z => ?_)
    · exact gl_end C d_1156 d_1157 (by show jC J ≤ 600000; omega) (by show jB J ≤ 7302250; omega)
    · match n, hn with
      | 0, hn => omega
      | n + 1, hn => exact law_turn C z h hB (by omega) (fun I2 J2 h2 => gl_next C (tg := 18) d_1150 d_1153 (by decide) (law_loop C hL hB n (j + 1) I2 J2 (by omega) h2))
end
section
/-! The law, from its entry. Written by wip/gen/law.py. -/
set_option maxHeartbeats 4000000 in
set_option maxRecDepth 100000 in
/-- YOUR PART: from the entry, for every script of at most 3072 ints, the law comes to its end with true ('hflags': the launch's flags, for a law that throws: no stack traces) -/
theorem whole_start {p : Program} {e : Env} {s : State} {m : MethodId} {below : List Frame} {meth : Method} {c : Code} (l : Launch) (hflags : l.flags = flags0) {b L : Nat} {xs : Nat → Int32} (hL : L ≤ 3072) (C0 : lw_At p s m meth c b L xs) : W p l e room_1 s m #[Value.ref b] below meth c s.heap [] 0 0 (lw_Z below #[Value.ref b] s) (entryFrame m ([Value.ref b] : List Value).toArray 4) := by
  obtain ⟨hx, hb, hr, hml, hown, hts, hX, hbl, hlocks, hgv⟩ := C0
  obtain ⟨D, cy, hK, hN⟩ := lx_known hts
  have hg : ∀ w ∈ lw_good, w.before #[Value.ref b] s = true := fun w hw => hts w (List.mem_filter.mp hw).1
  have C : LX (p, l, e, s, m, below, meth, c, D, cy, b) L xs := ⟨hx, hb, hr, hml, hown, hg, hX, hbl, hlocks, hK, hN, by omega⟩
  have hS : va_S (fun q : Nat => s.heap.size ≤ q) s.heap s.heap [] := va_S.rf
  have hH : HR D cy s.heap.size (fun _ _ => 0, fun _ _ => 0, fun _ _ => none, fun _ => (17, 0), 0, 0) s.heap := ⟨rfl, fun a ha => absurd ha (Nat.not_lt_zero a), fun a _ => rfl⟩
  have hl := lv_entry ([.ref b]) (n := 4) (Nat.le_of_ble_eq_true rfl)
  rw [lg_entry_eq]
  generalize (lg_sl ([.ref b]) ++ List.replicate (4 - (lg_sl ([.ref b])).length) Slot.unset).toArray = ls at hl ⊢
  have hl : lv_has ls 4 [(0, .ref b)] := hl
  refine hr_new fw_all hx hb hg hown hK hH hS (ci := 9) (by decide) (hts _ (tbl_at (ch_1 (q := 15) rfl))) (hts _ (inst_in 9 (by decide))) (hts _ (tbl_at (ch_1 (q := 1) rfl))) (Nat.le_of_ble_eq_true rfl) (Nat.le_of_ble_eq_true rfl) d_0 (fun H hH hS => ?_)
  refine lv_dup hx hb d_3 rfl ?_
  obtain ⟨s1, e1, z1, w1, kl, r68, dr, in1⟩ := c_X9_init (s := al (fun _ _ => 0, fun _ _ => 0, fun _ _ => none, fun _ => (17, 0), 0, 0) 9 (nfl 9)) rfl rfl rfl
  refine gl_ctor C S_X9_init li_X9 (a := 0) e1 (by rw [z1]; decide) (by rw [w1]; decide) hH hS hl.1 d_4 (fun H locs hH hS => ?_)
  refine lv_astore_n (lv' := [(1, .ref (s.heap.size + 0)), (0, .ref b)]) hx hb d_7 rfl hl (by decide) rfl (fun ls hl => ?_)
  refine hr_new fw_all hx hb hg hown hK hH hS (ci := 10) (by decide) (hts _ (tbl_at (ch_5 (q := 237) rfl))) (hts _ (inst_in 10 (by decide))) (hts _ (tbl_at (ch_1 (q := 13) rfl))) (by rw [z1]; decide) (by rw [w1]; decide) d_8 (fun H hH hS => ?_)
  refine lv_dup hx hb d_11 rfl ?_
  have e188 : s.heap.size + sz s1 = s.heap.size + 188 := by rw [z1]
  rw [e188]
  obtain ⟨s2, e2, z2, w2, sm, rl, d2, i188, ir⟩ := c_X10_init (s := al s1 10 (nfl 10)) (by show sz s1 + 1 = 189; omega) (by show (if (188 : Nat) = sz s1 then (10, nfl 10) else _) = (10, 43); rw [z1]; rfl) (by funext y; show (if (188 : Nat) = sz s1 then (0 : Int32) else _) = 0; rw [z1]; rfl)
  have w2' : sl s2 = 16 + 4743 + 43 + 43009 := by
    rw [w2]
    show sl s1 + 43 + 43009 = _
    rw [w1]
    rfl
  refine gl_ctor C S_X10_init li_X10 (a := 188) e2 (by rw [z2]; decide) (by rw [w2']; decide) hH hS hl.1 d_12 (fun H locs hH hS => ?_)
  refine lv_astore_n (lv' := [(2, .ref (s.heap.size + 188)), (1, .ref (s.heap.size + 0)), (0, .ref b)]) hx hb d_15 rfl hl (by decide) rfl (fun ls hl => ?_)
  refine lv_iconst (v := 0) hx hb d_16 (by decide) ?_
  refine lv_istore_n (lv' := [(3, .int 0), (2, .ref (s.heap.size + 188)), (1, .ref (s.heap.size + 0)), (0, .ref b)]) hx hb d_17 rfl hl (by decide) rfl (fun ls hl => ?_)
  obtain ⟨I, J⟩ := s2
  have ini1 : ∀ x, x < 188 → I x = ini x := fun x hx => by
    have := (sm x hx).1
    have e : (al s1 10 (nfl 10)).1 x = s1.1 x := by
      funext y
      show (if x = sz s1 then (0 : Int32) else s1.1 x y) = s1.1 x y
      rw [z1, if_neg (by omega)]
    exact (this.trans e).trans (in1 x hx)
  have bl : ∀ x, x < 188 → jR J x = jR s1.2 x ∧ jS J x = jS s1.2 x := fun x hx => by
    obtain ⟨_, _, q3, q4⟩ := sm x hx
    refine ⟨q3.trans ?_, q4.trans ?_⟩
    · funext y
      show (if x = sz s1 then (none : Option Nat) else s1.2.2.1 x y) = s1.2.2.1 x y
      rw [z1, if_neg (by omega)]
    · show (if x = sz s1 then (10, nfl 10) else s1.2.2.2.1 x) = s1.2.2.2.1 x
      rw [z1, if_neg (by omega)]
  have kl2 : KL J := kl.gx (fun x hx _ => bl x hx) (bl 68 (by decide)).2
  have d0 : J.1 0 15 = 1 := by
    have := (sm 0 (by decide)).2.1
    have e : (al s1 10 (nfl 10)).2.1 0 = s1.2.1 0 := by
      funext y
      show (if (0 : Nat) = sz s1 then (0 : Int64) else s1.2.1 0 y) = s1.2.1 0 y
      rw [z1, if_neg (by omega)]
    exact (congrFun (this.trans e) 15).trans dr
  have fst := St.first' (I := I) (J := J) kl2 rl ini1 i188 ir d0 d2 (fun k => (congrFun (bl 68 (by decide)).1 k).trans (r68 k)) z2
  have fs : jB J = 47811 := w2'
  have l3 : lv_has ls 4 [(0, .ref b), (1, .ref (s.heap.size + 0)), (2, .ref (s.heap.size + 188)), (3, .int (nI 0))] := lv_sub hl [3, 2, 1, 0] rfl
  exact law_loop C hL (B0 := jB J) (by rw [fs]; decide) 513 0 I J (by decide) fst H locs ls hH hS l3
end
