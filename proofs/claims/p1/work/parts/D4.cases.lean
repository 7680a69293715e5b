/-! The law's cases. Written by wip/gen/law.py. -/
theorem cs_feed {X : LT} {L : Nat} {xs : Nat → Int32} (C : LX X L xs) {i : Nat} (hi : i + 6 ≤ L) {u u1 u2 : MH} {v w : Int32} (k0 : kd u 0 = 9) (k1 : kd u1 188 = 10) (h1 : M_X9_feed [mR (some 0), mI (xs (i + 1)), mI (xs (i + 2)), mI (xs (i + 3)), mI (xs (i + 4)), mI (xs (i + 5))] u = some (some (mI v), u1)) (h2 : M_X10_feed [mR (some 188), mI (xs (i + 1)), mI (xs (i + 2)), mI (xs (i + 3)), mI (xs (i + 4)), mI (xs (i + 5))] u1 = some (some (mI w), u2)) (e : v = w) (hz : sz u2 ≤ 600000) (hw : sl u2 ≤ 7302250) (hn : Gl X i 1150 [] u2) : Gl X i 208 [] u := by
  have mo := (S_X10_feed _ _ _ _ h2).1
  refine gl_x C d_208 ?_
  refine gl_arg C (k := 1) (by omega) rfl d_209 d_210 d_211 d_212 d_213 ?_
  refine gl_arg C (k := 2) (by omega) rfl d_214 d_215 d_216 d_217 d_218 ?_
  refine gl_arg C (k := 3) (by omega) rfl d_219 d_220 d_221 d_222 d_223 ?_
  refine gl_arg C (k := 4) (by omega) rfl d_224 d_225 d_226 d_227 d_228 ?_
  refine gl_arg C (k := 5) (by omega) rfl d_229 d_230 d_231 d_232 d_233 ?_
  refine gl_call C S_X9_feed lc_X9_feed (rest := []) h1 k0 (by omega) (by omega) rfl rfl (Or.inl rfl) d_234 ?_
  refine gl_m C d_237 ?_
  refine gl_arg C (k := 1) (by omega) rfl d_238 d_239 d_240 d_241 d_242 ?_
  refine gl_arg C (k := 2) (by omega) rfl d_243 d_244 d_245 d_246 d_247 ?_
  refine gl_arg C (k := 3) (by omega) rfl d_248 d_249 d_250 d_251 d_252 ?_
  refine gl_arg C (k := 4) (by omega) rfl d_253 d_254 d_255 d_256 d_257 ?_
  refine gl_arg C (k := 5) (by omega) rfl d_258 d_259 d_260 d_261 d_262 ?_
  refine gl_call C S_X10_feed lc_X10_feed (rest := [.int v]) h2 k1 hz hw rfl rfl (Or.inr ⟨v, rfl⟩) d_263 ?_
  exact gl_eq C e d_266 (by decide) hn
theorem cs_end {X : LT} {L : Nat} {xs : Nat → Int32} (C : LX X L xs) {i : Nat} (hi : i + 6 ≤ L) {u u1 u2 : MH} {v w : Int32} (k0 : kd u 0 = 9) (k1 : kd u1 188 = 10) (h1 : M_X9_end [mR (some 0), mI (xs (i + 1))] u = some (some (mI v), u1)) (h2 : M_X10_end [mR (some 188), mI (xs (i + 1))] u1 = some (some (mI w), u2)) (e : v = w) (hz : sz u2 ≤ 600000) (hw : sl u2 ≤ 7302250) (hn : Gl X i 1150 [] u2) : Gl X i 271 [] u := by
  have mo := (S_X10_end _ _ _ _ h2).1
  refine gl_x C d_271 ?_
  refine gl_arg C (k := 1) (by omega) rfl d_272 d_273 d_274 d_275 d_276 ?_
  refine gl_call C S_X9_end lc_X9_end (rest := []) h1 k0 (by omega) (by omega) rfl rfl (Or.inl rfl) d_277 ?_
  refine gl_m C d_280 ?_
  refine gl_arg C (k := 1) (by omega) rfl d_281 d_282 d_283 d_284 d_285 ?_
  refine gl_call C S_X10_end lc_X10_end (rest := [.int v]) h2 k1 hz hw rfl rfl (Or.inr ⟨v, rfl⟩) d_286 ?_
  exact gl_eq C e d_289 (by decide) hn
theorem cs_trees {X : LT} {L : Nat} {xs : Nat → Int32} (C : LX X L xs) {i : Nat} (hi : i + 6 ≤ L) {u u1 u2 : MH} {v w : Int32} (k0 : kd u 0 = 9) (k1 : kd u1 188 = 10) (h1 : M_X9_trees [mR (some 0)] u = some (some (mI v), u1)) (h2 : M_X10_trees [mR (some 188)] u1 = some (some (mI w), u2)) (e : v = w) (hz : sz u2 ≤ 600000) (hw : sl u2 ≤ 7302250) (hn : Gl X i 1150 [] u2) : Gl X i 294 [] u := by
  have mo := (S_X10_trees _ _ _ _ h2).1
  refine gl_x C d_294 ?_
  refine gl_call C S_X9_trees lc_X9_trees (rest := []) h1 k0 (by omega) (by omega) rfl rfl (Or.inl rfl) d_295 ?_
  refine gl_m C d_298 ?_
  refine gl_call C S_X10_trees lc_X10_trees (rest := [.int v]) h2 k1 hz hw rfl rfl (Or.inr ⟨v, rfl⟩) d_299 ?_
  exact gl_eq C e d_302 (by decide) hn
theorem cs_fault {X : LT} {L : Nat} {xs : Nat → Int32} (C : LX X L xs) {i : Nat} (hi : i + 6 ≤ L) {u u1 u2 : MH} {v w : Int32} (k0 : kd u 0 = 9) (k1 : kd u1 188 = 10) (h1 : M_X9_fault [mR (some 0), mI (xs (i + 1))] u = some (some (mI v), u1)) (h2 : M_X10_fault [mR (some 188), mI (xs (i + 1))] u1 = some (some (mI w), u2)) (e : v = w) (hz : sz u2 ≤ 600000) (hw : sl u2 ≤ 7302250) (hn : Gl X i 1150 [] u2) : Gl X i 307 [] u := by
  have mo := (S_X10_fault _ _ _ _ h2).1
  refine gl_x C d_307 ?_
  refine gl_arg C (k := 1) (by omega) rfl d_308 d_309 d_310 d_311 d_312 ?_
  refine gl_call C S_X9_fault lc_X9_fault (rest := []) h1 k0 (by omega) (by omega) rfl rfl (Or.inl rfl) d_313 ?_
  refine gl_m C d_316 ?_
  refine gl_arg C (k := 1) (by omega) rfl d_317 d_318 d_319 d_320 d_321 ?_
  refine gl_call C S_X10_fault lc_X10_fault (rest := [.int v]) h2 k1 hz hw rfl rfl (Or.inr ⟨v, rfl⟩) d_322 ?_
  exact gl_eq C e d_325 (by decide) hn
theorem cs_has {X : LT} {L : Nat} {xs : Nat → Int32} (C : LX X L xs) {i : Nat} (hi : i + 6 ≤ L) {u u1 u2 : MH} {v w : Int32} (k0 : kd u 0 = 9) (k1 : kd u1 188 = 10) (h1 : M_X9_has [mR (some 0), mI (xs (i + 1))] u = some (some (mI v), u1)) (h2 : M_X10_has [mR (some 188), mI (xs (i + 1))] u1 = some (some (mI w), u2)) (e : v = w) (hz : sz u2 ≤ 600000) (hw : sl u2 ≤ 7302250) (hn : Gl X i 1150 [] u2) : Gl X i 330 [] u := by
  have mo := (S_X10_has _ _ _ _ h2).1
  refine gl_x C d_330 ?_
  refine gl_arg C (k := 1) (by omega) rfl d_331 d_332 d_333 d_334 d_335 ?_
  refine gl_call C S_X9_has lc_X9_has (rest := []) h1 k0 (by omega) (by omega) rfl rfl (Or.inl rfl) d_336 ?_
  refine gl_m C d_339 ?_
  refine gl_arg C (k := 1) (by omega) rfl d_340 d_341 d_342 d_343 d_344 ?_
  refine gl_call C S_X10_has lc_X10_has (rest := [.int v]) h2 k1 hz hw rfl rfl (Or.inr ⟨v, rfl⟩) d_345 ?_
  exact gl_eq C e d_348 (by decide) hn
theorem cs_node {X : LT} {L : Nat} {xs : Nat → Int32} (C : LX X L xs) {i : Nat} (hi : i + 6 ≤ L) {u u1 u2 : MH} {v w : Int32} (k0 : kd u 0 = 9) (k1 : kd u1 188 = 10) (h1 : M_X9_node [mR (some 0), mI (xs (i + 1)), mI (xs (i + 2))] u = some (some (mI v), u1)) (h2 : M_X10_node [mR (some 188), mI (xs (i + 1)), mI (xs (i + 2))] u1 = some (some (mI w), u2)) (e : v = w) (hz : sz u2 ≤ 600000) (hw : sl u2 ≤ 7302250) (hn : Gl X i 1150 [] u2) : Gl X i 353 [] u := by
  have mo := (S_X10_node _ _ _ _ h2).1
  refine gl_x C d_353 ?_
  refine gl_arg C (k := 1) (by omega) rfl d_354 d_355 d_356 d_357 d_358 ?_
  refine gl_arg C (k := 2) (by omega) rfl d_359 d_360 d_361 d_362 d_363 ?_
  refine gl_call C S_X9_node lc_X9_node (rest := []) h1 k0 (by omega) (by omega) rfl rfl (Or.inl rfl) d_364 ?_
  refine gl_m C d_367 ?_
  refine gl_arg C (k := 1) (by omega) rfl d_368 d_369 d_370 d_371 d_372 ?_
  refine gl_arg C (k := 2) (by omega) rfl d_373 d_374 d_375 d_376 d_377 ?_
  refine gl_call C S_X10_node lc_X10_node (rest := [.int v]) h2 k1 hz hw rfl rfl (Or.inr ⟨v, rfl⟩) d_378 ?_
  exact gl_eq C e d_381 (by decide) hn
theorem cs_letter {X : LT} {L : Nat} {xs : Nat → Int32} (C : LX X L xs) {i : Nat} (hi : i + 6 ≤ L) {u u1 u2 : MH} {v w : Int32} (k0 : kd u 0 = 9) (k1 : kd u1 188 = 10) (h1 : M_X9_letter [mR (some 0), mI (if xs (i + 1) = 0 then 0 else 1), mI (xs (i + 2)), mI (xs (i + 3))] u = some (some (mI v), u1)) (h2 : M_X10_letter [mR (some 188), mI (if xs (i + 1) = 0 then 0 else 1), mI (xs (i + 2)), mI (xs (i + 3))] u1 = some (some (mI w), u2)) (e : v = w) (hz : sz u2 ≤ 600000) (hw : sl u2 ≤ 7302250) (hn : Gl X i 1150 [] u2) : Gl X i 386 [] u := by
  have mo := (S_X10_letter _ _ _ _ h2).1
  refine gl_x C d_386 ?_
  refine gl_flag C (k := 1) (by omega) rfl d_387 d_388 d_389 d_390 d_391 d_392 (by decide) d_395 d_396 (by decide) d_399 ?_
  refine gl_arg C (k := 2) (by omega) rfl d_400 d_401 d_402 d_403 d_404 ?_
  refine gl_arg C (k := 3) (by omega) rfl d_405 d_406 d_407 d_408 d_409 ?_
  refine gl_call C S_X9_letter lc_X9_letter (rest := []) h1 k0 (by omega) (by omega) rfl rfl (Or.inl rfl) d_410 ?_
  refine gl_m C d_413 ?_
  refine gl_flag C (k := 1) (by omega) rfl d_414 d_415 d_416 d_417 d_418 d_419 (by decide) d_422 d_423 (by decide) d_426 ?_
  refine gl_arg C (k := 2) (by omega) rfl d_427 d_428 d_429 d_430 d_431 ?_
  refine gl_arg C (k := 3) (by omega) rfl d_432 d_433 d_434 d_435 d_436 ?_
  refine gl_call C S_X10_letter lc_X10_letter (rest := [.int v]) h2 k1 hz hw rfl rfl (Or.inr ⟨v, rfl⟩) d_437 ?_
  exact gl_eq C e d_440 (by decide) hn
theorem cs_entry {X : LT} {L : Nat} {xs : Nat → Int32} (C : LX X L xs) {i : Nat} (hi : i + 6 ≤ L) {u u1 u2 : MH} {v w : Int32} (k0 : kd u 0 = 9) (k1 : kd u1 188 = 10) (h1 : M_X9_entry [mR (some 0), mI (xs (i + 1)), mI (xs (i + 2))] u = some (some (mI v), u1)) (h2 : M_X10_entry [mR (some 188), mI (xs (i + 1)), mI (xs (i + 2))] u1 = some (some (mI w), u2)) (e : v = w) (hz : sz u2 ≤ 600000) (hw : sl u2 ≤ 7302250) (hn : Gl X i 1150 [] u2) : Gl X i 445 [] u := by
  have mo := (S_X10_entry _ _ _ _ h2).1
  refine gl_x C d_445 ?_
  refine gl_arg C (k := 1) (by omega) rfl d_446 d_447 d_448 d_449 d_450 ?_
  refine gl_arg C (k := 2) (by omega) rfl d_451 d_452 d_453 d_454 d_455 ?_
  refine gl_call C S_X9_entry lc_X9_entry (rest := []) h1 k0 (by omega) (by omega) rfl rfl (Or.inl rfl) d_456 ?_
  refine gl_m C d_459 ?_
  refine gl_arg C (k := 1) (by omega) rfl d_460 d_461 d_462 d_463 d_464 ?_
  refine gl_arg C (k := 2) (by omega) rfl d_465 d_466 d_467 d_468 d_469 ?_
  refine gl_call C S_X10_entry lc_X10_entry (rest := [.int v]) h2 k1 hz hw rfl rfl (Or.inr ⟨v, rfl⟩) d_470 ?_
  exact gl_eq C e d_473 (by decide) hn
theorem cs_child {X : LT} {L : Nat} {xs : Nat → Int32} (C : LX X L xs) {i : Nat} (hi : i + 6 ≤ L) {u u1 u2 : MH} {v w : Int32} (k0 : kd u 0 = 9) (k1 : kd u1 188 = 10) (h1 : M_X9_child [mR (some 0), mI (xs (i + 1))] u = some (some (mI v), u1)) (h2 : M_X10_child [mR (some 188), mI (xs (i + 1))] u1 = some (some (mI w), u2)) (e : v = w) (hz : sz u2 ≤ 600000) (hw : sl u2 ≤ 7302250) (hn : Gl X i 1150 [] u2) : Gl X i 478 [] u := by
  have mo := (S_X10_child _ _ _ _ h2).1
  refine gl_x C d_478 ?_
  refine gl_arg C (k := 1) (by omega) rfl d_479 d_480 d_481 d_482 d_483 ?_
  refine gl_call C S_X9_child lc_X9_child (rest := []) h1 k0 (by omega) (by omega) rfl rfl (Or.inl rfl) d_484 ?_
  refine gl_m C d_487 ?_
  refine gl_arg C (k := 1) (by omega) rfl d_488 d_489 d_490 d_491 d_492 ?_
  refine gl_call C S_X10_child lc_X10_child (rest := [.int v]) h2 k1 hz hw rfl rfl (Or.inr ⟨v, rfl⟩) d_493 ?_
  exact gl_eq C e d_496 (by decide) hn
theorem cs_walker {X : LT} {L : Nat} {xs : Nat → Int32} (C : LX X L xs) {i : Nat} (hi : i + 6 ≤ L) {u u1 u2 : MH} {v w : Int32} (k0 : kd u 0 = 9) (k1 : kd u1 188 = 10) (h1 : M_X9_walker [mR (some 0), mI (xs (i + 1)), mI (xs (i + 2))] u = some (some (mI v), u1)) (h2 : M_X10_walker [mR (some 188), mI (xs (i + 1)), mI (xs (i + 2))] u1 = some (some (mI w), u2)) (e : v = w) (hz : sz u2 ≤ 600000) (hw : sl u2 ≤ 7302250) (hn : Gl X i 1150 [] u2) : Gl X i 501 [] u := by
  have mo := (S_X10_walker _ _ _ _ h2).1
  refine gl_x C d_501 ?_
  refine gl_arg C (k := 1) (by omega) rfl d_502 d_503 d_504 d_505 d_506 ?_
  refine gl_arg C (k := 2) (by omega) rfl d_507 d_508 d_509 d_510 d_511 ?_
  refine gl_call C S_X9_walker lc_X9_walker (rest := []) h1 k0 (by omega) (by omega) rfl rfl (Or.inl rfl) d_512 ?_
  refine gl_m C d_515 ?_
  refine gl_arg C (k := 1) (by omega) rfl d_516 d_517 d_518 d_519 d_520 ?_
  refine gl_arg C (k := 2) (by omega) rfl d_521 d_522 d_523 d_524 d_525 ?_
  refine gl_call C S_X10_walker lc_X10_walker (rest := [.int v]) h2 k1 hz hw rfl rfl (Or.inr ⟨v, rfl⟩) d_526 ?_
  exact gl_eq C e d_529 (by decide) hn
theorem cs_handle {X : LT} {L : Nat} {xs : Nat → Int32} (C : LX X L xs) {i : Nat} (hi : i + 6 ≤ L) {u u1 u2 : MH} {v w : Int32} (k0 : kd u 0 = 9) (k1 : kd u1 188 = 10) (h1 : M_X9_handle [mR (some 0), mI (xs (i + 1))] u = some (some (mI v), u1)) (h2 : M_X10_handle [mR (some 188), mI (xs (i + 1))] u1 = some (some (mI w), u2)) (e : v = w) (hz : sz u2 ≤ 600000) (hw : sl u2 ≤ 7302250) (hn : Gl X i 1150 [] u2) : Gl X i 534 [] u := by
  have mo := (S_X10_handle _ _ _ _ h2).1
  refine gl_x C d_534 ?_
  refine gl_arg C (k := 1) (by omega) rfl d_535 d_536 d_537 d_538 d_539 ?_
  refine gl_call C S_X9_handle lc_X9_handle (rest := []) h1 k0 (by omega) (by omega) rfl rfl (Or.inl rfl) d_540 ?_
  refine gl_m C d_543 ?_
  refine gl_arg C (k := 1) (by omega) rfl d_544 d_545 d_546 d_547 d_548 ?_
  refine gl_call C S_X10_handle lc_X10_handle (rest := [.int v]) h2 k1 hz hw rfl rfl (Or.inr ⟨v, rfl⟩) d_549 ?_
  exact gl_eq C e d_552 (by decide) hn
theorem cs_where {X : LT} {L : Nat} {xs : Nat → Int32} (C : LX X L xs) {i : Nat} (hi : i + 6 ≤ L) {u u1 u2 : MH} {v w : Int32} (k0 : kd u 0 = 9) (k1 : kd u1 188 = 10) (h1 : M_X9_where [mR (some 0)] u = some (some (mI v), u1)) (h2 : M_X10_where [mR (some 188)] u1 = some (some (mI w), u2)) (e : v = w) (hz : sz u2 ≤ 600000) (hw : sl u2 ≤ 7302250) (hn : Gl X i 1150 [] u2) : Gl X i 557 [] u := by
  have mo := (S_X10_where _ _ _ _ h2).1
  refine gl_x C d_557 ?_
  refine gl_call C S_X9_where lc_X9_where (rest := []) h1 k0 (by omega) (by omega) rfl rfl (Or.inl rfl) d_558 ?_
  refine gl_m C d_561 ?_
  refine gl_call C S_X10_where lc_X10_where (rest := [.int v]) h2 k1 hz hw rfl rfl (Or.inr ⟨v, rfl⟩) d_562 ?_
  exact gl_eq C e d_565 (by decide) hn
theorem cs_needs {X : LT} {L : Nat} {xs : Nat → Int32} (C : LX X L xs) {i : Nat} (hi : i + 6 ≤ L) {u u1 u2 : MH} {v w : Int32} (k0 : kd u 0 = 9) (k1 : kd u1 188 = 10) (h1 : M_X9_needs [mR (some 0)] u = some (some (mI v), u1)) (h2 : M_X10_needs [mR (some 188)] u1 = some (some (mI w), u2)) (e : v = w) (hz : sz u2 ≤ 600000) (hw : sl u2 ≤ 7302250) (hn : Gl X i 1150 [] u2) : Gl X i 570 [] u := by
  have mo := (S_X10_needs _ _ _ _ h2).1
  refine gl_x C d_570 ?_
  refine gl_call C S_X9_needs lc_X9_needs (rest := []) h1 k0 (by omega) (by omega) rfl rfl (Or.inl rfl) d_571 ?_
  refine gl_m C d_574 ?_
  refine gl_call C S_X10_needs lc_X10_needs (rest := [.int v]) h2 k1 hz hw rfl rfl (Or.inr ⟨v, rfl⟩) d_575 ?_
  exact gl_eq C e d_578 (by decide) hn
theorem cs_victim {X : LT} {L : Nat} {xs : Nat → Int32} (C : LX X L xs) {i : Nat} (hi : i + 6 ≤ L) {u u1 u2 : MH} {v w : Int32} (k0 : kd u 0 = 9) (k1 : kd u1 188 = 10) (h1 : M_X9_victim [mR (some 0), mI (xs (i + 1))] u = some (some (mI v), u1)) (h2 : M_X10_victim [mR (some 188), mI (xs (i + 1))] u1 = some (some (mI w), u2)) (e : v = w) (hz : sz u2 ≤ 600000) (hw : sl u2 ≤ 7302250) (hn : Gl X i 1150 [] u2) : Gl X i 583 [] u := by
  have mo := (S_X10_victim _ _ _ _ h2).1
  refine gl_x C d_583 ?_
  refine gl_arg C (k := 1) (by omega) rfl d_584 d_585 d_586 d_587 d_588 ?_
  refine gl_call C S_X9_victim lc_X9_victim (rest := []) h1 k0 (by omega) (by omega) rfl rfl (Or.inl rfl) d_589 ?_
  refine gl_m C d_592 ?_
  refine gl_arg C (k := 1) (by omega) rfl d_593 d_594 d_595 d_596 d_597 ?_
  refine gl_call C S_X10_victim lc_X10_victim (rest := [.int v]) h2 k1 hz hw rfl rfl (Or.inr ⟨v, rfl⟩) d_598 ?_
  exact gl_eq C e d_601 (by decide) hn
theorem cs_path {X : LT} {L : Nat} {xs : Nat → Int32} (C : LX X L xs) {i : Nat} (hi : i + 6 ≤ L) {u u1 u2 : MH} {v w : Int32} (k0 : kd u 0 = 9) (k1 : kd u1 188 = 10) (h1 : M_X9_path [mR (some 0), mI (xs (i + 1))] u = some (some (mI v), u1)) (h2 : M_X10_path [mR (some 188), mI (xs (i + 1))] u1 = some (some (mI w), u2)) (e : v = w) (hz : sz u2 ≤ 600000) (hw : sl u2 ≤ 7302250) (hn : Gl X i 1150 [] u2) : Gl X i 606 [] u := by
  have mo := (S_X10_path _ _ _ _ h2).1
  refine gl_x C d_606 ?_
  refine gl_arg C (k := 1) (by omega) rfl d_607 d_608 d_609 d_610 d_611 ?_
  refine gl_call C S_X9_path lc_X9_path (rest := []) h1 k0 (by omega) (by omega) rfl rfl (Or.inl rfl) d_612 ?_
  refine gl_m C d_615 ?_
  refine gl_arg C (k := 1) (by omega) rfl d_616 d_617 d_618 d_619 d_620 ?_
  refine gl_call C S_X10_path lc_X10_path (rest := [.int v]) h2 k1 hz hw rfl rfl (Or.inr ⟨v, rfl⟩) d_621 ?_
  exact gl_eq C e d_624 (by decide) hn
theorem cs_octet {X : LT} {L : Nat} {xs : Nat → Int32} (C : LX X L xs) {i : Nat} (hi : i + 6 ≤ L) {u u1 u2 : MH} {v w : Int32} (k0 : kd u 0 = 9) (k1 : kd u1 188 = 10) (h1 : M_X9_octet [mR (some 0), mI (xs (i + 1))] u = some (some (mI v), u1)) (h2 : M_X10_octet [mR (some 188), mI (xs (i + 1))] u1 = some (some (mI w), u2)) (e : v = w) (hz : sz u2 ≤ 600000) (hw : sl u2 ≤ 7302250) (hn : Gl X i 1150 [] u2) : Gl X i 629 [] u := by
  have mo := (S_X10_octet _ _ _ _ h2).1
  refine gl_x C d_629 ?_
  refine gl_arg C (k := 1) (by omega) rfl d_630 d_631 d_632 d_633 d_634 ?_
  refine gl_call C S_X9_octet lc_X9_octet (rest := []) h1 k0 (by omega) (by omega) rfl rfl (Or.inl rfl) d_635 ?_
  refine gl_m C d_638 ?_
  refine gl_arg C (k := 1) (by omega) rfl d_639 d_640 d_641 d_642 d_643 ?_
  refine gl_call C S_X10_octet lc_X10_octet (rest := [.int v]) h2 k1 hz hw rfl rfl (Or.inr ⟨v, rfl⟩) d_644 ?_
  exact gl_eq C e d_647 (by decide) hn
theorem cs_look {X : LT} {L : Nat} {xs : Nat → Int32} (C : LX X L xs) {i : Nat} (hi : i + 6 ≤ L) {u u1 u2 : MH} {v w : Int32} (k0 : kd u 0 = 9) (k1 : kd u1 188 = 10) (h1 : M_X9_look [mR (some 0)] u = some (some (mI v), u1)) (h2 : M_X10_look [mR (some 188)] u1 = some (some (mI w), u2)) (e : v = w) (hz : sz u2 ≤ 600000) (hw : sl u2 ≤ 7302250) (hn : Gl X i 1150 [] u2) : Gl X i 652 [] u := by
  have mo := (S_X10_look _ _ _ _ h2).1
  refine gl_x C d_652 ?_
  refine gl_call C S_X9_look lc_X9_look (rest := []) h1 k0 (by omega) (by omega) rfl rfl (Or.inl rfl) d_653 ?_
  refine gl_m C d_656 ?_
  refine gl_call C S_X10_look lc_X10_look (rest := [.int v]) h2 k1 hz hw rfl rfl (Or.inr ⟨v, rfl⟩) d_657 ?_
  exact gl_eq C e d_660 (by decide) hn
theorem cs_make {X : LT} {L : Nat} {xs : Nat → Int32} (C : LX X L xs) {i : Nat} (hi : i + 6 ≤ L) {u u1 u2 : MH} {v w : Int32} (k0 : kd u 0 = 9) (k1 : kd u1 188 = 10) (h1 : M_X9_make [mR (some 0), mI (if xs (i + 1) = 0 then 0 else 1)] u = some (some (mI v), u1)) (h2 : M_X10_make [mR (some 188), mI (if xs (i + 1) = 0 then 0 else 1)] u1 = some (some (mI w), u2)) (e : v = w) (hz : sz u2 ≤ 600000) (hw : sl u2 ≤ 7302250) (hn : Gl X i 1150 [] u2) : Gl X i 665 [] u := by
  have mo := (S_X10_make _ _ _ _ h2).1
  refine gl_x C d_665 ?_
  refine gl_flag C (k := 1) (by omega) rfl d_666 d_667 d_668 d_669 d_670 d_671 (by decide) d_674 d_675 (by decide) d_678 ?_
  refine gl_call C S_X9_make lc_X9_make (rest := []) h1 k0 (by omega) (by omega) rfl rfl (Or.inl rfl) d_679 ?_
  refine gl_m C d_682 ?_
  refine gl_flag C (k := 1) (by omega) rfl d_683 d_684 d_685 d_686 d_687 d_688 (by decide) d_691 d_692 (by decide) d_695 ?_
  refine gl_call C S_X10_make lc_X10_make (rest := [.int v]) h2 k1 hz hw rfl rfl (Or.inr ⟨v, rfl⟩) d_696 ?_
  exact gl_eq C e d_699 (by decide) hn
theorem cs_remove {X : LT} {L : Nat} {xs : Nat → Int32} (C : LX X L xs) {i : Nat} (hi : i + 6 ≤ L) {u u1 u2 : MH} {v w : Int32} (k0 : kd u 0 = 9) (k1 : kd u1 188 = 10) (h1 : M_X9_remove [mR (some 0)] u = some (some (mI v), u1)) (h2 : M_X10_remove [mR (some 188)] u1 = some (some (mI w), u2)) (e : v = w) (hz : sz u2 ≤ 600000) (hw : sl u2 ≤ 7302250) (hn : Gl X i 1150 [] u2) : Gl X i 704 [] u := by
  have mo := (S_X10_remove _ _ _ _ h2).1
  refine gl_x C d_704 ?_
  refine gl_call C S_X9_remove lc_X9_remove (rest := []) h1 k0 (by omega) (by omega) rfl rfl (Or.inl rfl) d_705 ?_
  refine gl_m C d_708 ?_
  refine gl_call C S_X10_remove lc_X10_remove (rest := [.int v]) h2 k1 hz hw rfl rfl (Or.inr ⟨v, rfl⟩) d_709 ?_
  exact gl_eq C e d_712 (by decide) hn
theorem cs_rename {X : LT} {L : Nat} {xs : Nat → Int32} (C : LX X L xs) {i : Nat} (hi : i + 6 ≤ L) {u u1 u2 : MH} {v w : Int32} (k0 : kd u 0 = 9) (k1 : kd u1 188 = 10) (h1 : M_X9_rename [mR (some 0)] u = some (some (mI v), u1)) (h2 : M_X10_rename [mR (some 188)] u1 = some (some (mI w), u2)) (e : v = w) (hz : sz u2 ≤ 600000) (hw : sl u2 ≤ 7302250) (hn : Gl X i 1150 [] u2) : Gl X i 717 [] u := by
  have mo := (S_X10_rename _ _ _ _ h2).1
  refine gl_x C d_717 ?_
  refine gl_call C S_X9_rename lc_X9_rename (rest := []) h1 k0 (by omega) (by omega) rfl rfl (Or.inl rfl) d_718 ?_
  refine gl_m C d_721 ?_
  refine gl_call C S_X10_rename lc_X10_rename (rest := [.int v]) h2 k1 hz hw rfl rfl (Or.inr ⟨v, rfl⟩) d_722 ?_
  exact gl_eq C e d_725 (by decide) hn
theorem cs_open {X : LT} {L : Nat} {xs : Nat → Int32} (C : LX X L xs) {i : Nat} (hi : i + 6 ≤ L) {u u1 u2 : MH} {v w : Int32} (k0 : kd u 0 = 9) (k1 : kd u1 188 = 10) (h1 : M_X9_open [mR (some 0)] u = some (some (mI v), u1)) (h2 : M_X10_open [mR (some 188)] u1 = some (some (mI w), u2)) (e : v = w) (hz : sz u2 ≤ 600000) (hw : sl u2 ≤ 7302250) (hn : Gl X i 1150 [] u2) : Gl X i 730 [] u := by
  have mo := (S_X10_open _ _ _ _ h2).1
  refine gl_x C d_730 ?_
  refine gl_call C S_X9_open lc_X9_open (rest := []) h1 k0 (by omega) (by omega) rfl rfl (Or.inl rfl) d_731 ?_
  refine gl_m C d_734 ?_
  refine gl_call C S_X10_open lc_X10_open (rest := [.int v]) h2 k1 hz hw rfl rfl (Or.inr ⟨v, rfl⟩) d_735 ?_
  exact gl_eq C e d_738 (by decide) hn
theorem cs_close {X : LT} {L : Nat} {xs : Nat → Int32} (C : LX X L xs) {i : Nat} (hi : i + 6 ≤ L) {u u1 u2 : MH} {v w : Int32} (k0 : kd u 0 = 9) (k1 : kd u1 188 = 10) (h1 : M_X9_close [mR (some 0), mI (xs (i + 1))] u = some (some (mI v), u1)) (h2 : M_X10_close [mR (some 188), mI (xs (i + 1))] u1 = some (some (mI w), u2)) (e : v = w) (hz : sz u2 ≤ 600000) (hw : sl u2 ≤ 7302250) (hn : Gl X i 1150 [] u2) : Gl X i 743 [] u := by
  have mo := (S_X10_close _ _ _ _ h2).1
  refine gl_x C d_743 ?_
  refine gl_arg C (k := 1) (by omega) rfl d_744 d_745 d_746 d_747 d_748 ?_
  refine gl_call C S_X9_close lc_X9_close (rest := []) h1 k0 (by omega) (by omega) rfl rfl (Or.inl rfl) d_749 ?_
  refine gl_m C d_752 ?_
  refine gl_arg C (k := 1) (by omega) rfl d_753 d_754 d_755 d_756 d_757 ?_
  refine gl_call C S_X10_close lc_X10_close (rest := [.int v]) h2 k1 hz hw rfl rfl (Or.inr ⟨v, rfl⟩) d_758 ?_
  exact gl_eq C e d_761 (by decide) hn
theorem cs_mount {X : LT} {L : Nat} {xs : Nat → Int32} (C : LX X L xs) {i : Nat} (hi : i + 6 ≤ L) {u u1 u2 : MH} {v w : Int32} (k0 : kd u 0 = 9) (k1 : kd u1 188 = 10) (h1 : M_X9_mount [mR (some 0), mI (xs (i + 1))] u = some (some (mI v), u1)) (h2 : M_X10_mount [mR (some 188), mI (xs (i + 1))] u1 = some (some (mI w), u2)) (e : v = w) (hz : sz u2 ≤ 600000) (hw : sl u2 ≤ 7302250) (hn : Gl X i 1150 [] u2) : Gl X i 766 [] u := by
  have mo := (S_X10_mount _ _ _ _ h2).1
  refine gl_x C d_766 ?_
  refine gl_arg C (k := 1) (by omega) rfl d_767 d_768 d_769 d_770 d_771 ?_
  refine gl_call C S_X9_mount lc_X9_mount (rest := []) h1 k0 (by omega) (by omega) rfl rfl (Or.inl rfl) d_772 ?_
  refine gl_m C d_775 ?_
  refine gl_arg C (k := 1) (by omega) rfl d_776 d_777 d_778 d_779 d_780 ?_
  refine gl_call C S_X10_mount lc_X10_mount (rest := [.int v]) h2 k1 hz hw rfl rfl (Or.inr ⟨v, rfl⟩) d_781 ?_
  exact gl_eq C e d_784 (by decide) hn
theorem cs_unmount {X : LT} {L : Nat} {xs : Nat → Int32} (C : LX X L xs) {i : Nat} (hi : i + 6 ≤ L) {u u1 u2 : MH} {v w : Int32} (k0 : kd u 0 = 9) (k1 : kd u1 188 = 10) (h1 : M_X9_unmount [mR (some 0), mI (xs (i + 1))] u = some (some (mI v), u1)) (h2 : M_X10_unmount [mR (some 188), mI (xs (i + 1))] u1 = some (some (mI w), u2)) (e : v = w) (hz : sz u2 ≤ 600000) (hw : sl u2 ≤ 7302250) (hn : Gl X i 1150 [] u2) : Gl X i 789 [] u := by
  have mo := (S_X10_unmount _ _ _ _ h2).1
  refine gl_x C d_789 ?_
  refine gl_arg C (k := 1) (by omega) rfl d_790 d_791 d_792 d_793 d_794 ?_
  refine gl_call C S_X9_unmount lc_X9_unmount (rest := []) h1 k0 (by omega) (by omega) rfl rfl (Or.inl rfl) d_795 ?_
  refine gl_m C d_798 ?_
  refine gl_arg C (k := 1) (by omega) rfl d_799 d_800 d_801 d_802 d_803 ?_
  refine gl_call C S_X10_unmount lc_X10_unmount (rest := [.int v]) h2 k1 hz hw rfl rfl (Or.inr ⟨v, rfl⟩) d_804 ?_
  exact gl_eq C e d_807 (by decide) hn
theorem cs_trim {X : LT} {L : Nat} {xs : Nat → Int32} (C : LX X L xs) {i : Nat} (hi : i + 6 ≤ L) {u u1 u2 : MH} {v w : Int32} (k0 : kd u 0 = 9) (k1 : kd u1 188 = 10) (h1 : M_X9_trim [mR (some 0), mI (xs (i + 1))] u = some (some (mI v), u1)) (h2 : M_X10_trim [mR (some 188), mI (xs (i + 1))] u1 = some (some (mI w), u2)) (e : v = w) (hz : sz u2 ≤ 600000) (hw : sl u2 ≤ 7302250) (hn : Gl X i 1150 [] u2) : Gl X i 812 [] u := by
  have mo := (S_X10_trim _ _ _ _ h2).1
  refine gl_x C d_812 ?_
  refine gl_arg C (k := 1) (by omega) rfl d_813 d_814 d_815 d_816 d_817 ?_
  refine gl_call C S_X9_trim lc_X9_trim (rest := []) h1 k0 (by omega) (by omega) rfl rfl (Or.inl rfl) d_818 ?_
  refine gl_m C d_821 ?_
  refine gl_arg C (k := 1) (by omega) rfl d_822 d_823 d_824 d_825 d_826 ?_
  refine gl_call C S_X10_trim lc_X10_trim (rest := [.int v]) h2 k1 hz hw rfl rfl (Or.inr ⟨v, rfl⟩) d_827 ?_
  exact gl_eq C e d_830 (by decide) hn
theorem cs_room {X : LT} {L : Nat} {xs : Nat → Int32} (C : LX X L xs) {i : Nat} (hi : i + 6 ≤ L) {u u1 u2 : MH} {v w : Int32} (k0 : kd u 0 = 9) (k1 : kd u1 188 = 10) (h1 : M_X9_room [mR (some 0), mI (xs (i + 1))] u = some (some (mI v), u1)) (h2 : M_X10_room [mR (some 188), mI (xs (i + 1))] u1 = some (some (mI w), u2)) (e : v = w) (hz : sz u2 ≤ 600000) (hw : sl u2 ≤ 7302250) (hn : Gl X i 1150 [] u2) : Gl X i 835 [] u := by
  have mo := (S_X10_room _ _ _ _ h2).1
  refine gl_x C d_835 ?_
  refine gl_arg C (k := 1) (by omega) rfl d_836 d_837 d_838 d_839 d_840 ?_
  refine gl_call C S_X9_room lc_X9_room (rest := []) h1 k0 (by omega) (by omega) rfl rfl (Or.inl rfl) d_841 ?_
  refine gl_m C d_844 ?_
  refine gl_arg C (k := 1) (by omega) rfl d_845 d_846 d_847 d_848 d_849 ?_
  refine gl_call C S_X10_room lc_X10_room (rest := [.int v]) h2 k1 hz hw rfl rfl (Or.inr ⟨v, rfl⟩) d_850 ?_
  exact gl_eq C e d_853 (by decide) hn
theorem cs_chance {X : LT} {L : Nat} {xs : Nat → Int32} (C : LX X L xs) {i : Nat} (hi : i + 6 ≤ L) {u u1 u2 : MH} {v w : Int32} (k0 : kd u 0 = 9) (k1 : kd u1 188 = 10) (h1 : M_X9_chance [mR (some 0), mI (xs (i + 1))] u = some (some (mI v), u1)) (h2 : M_X10_chance [mR (some 188), mI (xs (i + 1))] u1 = some (some (mI w), u2)) (e : v = w) (hz : sz u2 ≤ 600000) (hw : sl u2 ≤ 7302250) (hn : Gl X i 1150 [] u2) : Gl X i 858 [] u := by
  have mo := (S_X10_chance _ _ _ _ h2).1
  refine gl_x C d_858 ?_
  refine gl_arg C (k := 1) (by omega) rfl d_859 d_860 d_861 d_862 d_863 ?_
  refine gl_call C S_X9_chance lc_X9_chance (rest := []) h1 k0 (by omega) (by omega) rfl rfl (Or.inl rfl) d_864 ?_
  refine gl_m C d_867 ?_
  refine gl_arg C (k := 1) (by omega) rfl d_868 d_869 d_870 d_871 d_872 ?_
  refine gl_call C S_X10_chance lc_X10_chance (rest := [.int v]) h2 k1 hz hw rfl rfl (Or.inr ⟨v, rfl⟩) d_873 ?_
  exact gl_eq C e d_876 (by decide) hn
theorem cs_begin {X : LT} {L : Nat} {xs : Nat → Int32} (C : LX X L xs) {i : Nat} (hi : i + 6 ≤ L) {u u1 u2 : MH} {v w : Int32} (k0 : kd u 0 = 9) (k1 : kd u1 188 = 10) (h1 : M_X9_begin [mR (some 0)] u = some (some (mI v), u1)) (h2 : M_X10_begin [mR (some 188)] u1 = some (some (mI w), u2)) (e : v = w) (hz : sz u2 ≤ 600000) (hw : sl u2 ≤ 7302250) (hn : Gl X i 1150 [] u2) : Gl X i 881 [] u := by
  have mo := (S_X10_begin _ _ _ _ h2).1
  refine gl_x C d_881 ?_
  refine gl_call C S_X9_begin lc_X9_begin (rest := []) h1 k0 (by omega) (by omega) rfl rfl (Or.inl rfl) d_882 ?_
  refine gl_m C d_885 ?_
  refine gl_call C S_X10_begin lc_X10_begin (rest := [.int v]) h2 k1 hz hw rfl rfl (Or.inr ⟨v, rfl⟩) d_886 ?_
  exact gl_eq C e d_889 (by decide) hn
theorem cs_step {X : LT} {L : Nat} {xs : Nat → Int32} (C : LX X L xs) {i : Nat} (hi : i + 6 ≤ L) {u u1 u2 : MH} {v w : Int32} (k0 : kd u 0 = 9) (k1 : kd u1 188 = 10) (h1 : M_X9_step [mR (some 0), mI (xs (i + 1))] u = some (some (mI v), u1)) (h2 : M_X10_step [mR (some 188), mI (xs (i + 1))] u1 = some (some (mI w), u2)) (e : v = w) (hz : sz u2 ≤ 600000) (hw : sl u2 ≤ 7302250) (hn : Gl X i 1150 [] u2) : Gl X i 894 [] u := by
  have mo := (S_X10_step _ _ _ _ h2).1
  refine gl_x C d_894 ?_
  refine gl_arg C (k := 1) (by omega) rfl d_895 d_896 d_897 d_898 d_899 ?_
  refine gl_call C S_X9_step lc_X9_step (rest := []) h1 k0 (by omega) (by omega) rfl rfl (Or.inl rfl) d_900 ?_
  refine gl_m C d_903 ?_
  refine gl_arg C (k := 1) (by omega) rfl d_904 d_905 d_906 d_907 d_908 ?_
  refine gl_call C S_X10_step lc_X10_step (rest := [.int v]) h2 k1 hz hw rfl rfl (Or.inr ⟨v, rfl⟩) d_909 ?_
  exact gl_eq C e d_912 (by decide) hn
theorem cs_result {X : LT} {L : Nat} {xs : Nat → Int32} (C : LX X L xs) {i : Nat} (hi : i + 6 ≤ L) {u u1 u2 : MH} {v w : Int32} (k0 : kd u 0 = 9) (k1 : kd u1 188 = 10) (h1 : M_X9_result [mR (some 0), mI (xs (i + 1))] u = some (some (mI v), u1)) (h2 : M_X10_result [mR (some 188), mI (xs (i + 1))] u1 = some (some (mI w), u2)) (e : v = w) (hz : sz u2 ≤ 600000) (hw : sl u2 ≤ 7302250) (hn : Gl X i 1150 [] u2) : Gl X i 917 [] u := by
  have mo := (S_X10_result _ _ _ _ h2).1
  refine gl_x C d_917 ?_
  refine gl_arg C (k := 1) (by omega) rfl d_918 d_919 d_920 d_921 d_922 ?_
  refine gl_call C S_X9_result lc_X9_result (rest := []) h1 k0 (by omega) (by omega) rfl rfl (Or.inl rfl) d_923 ?_
  refine gl_m C d_926 ?_
  refine gl_arg C (k := 1) (by omega) rfl d_927 d_928 d_929 d_930 d_931 ?_
  refine gl_call C S_X10_result lc_X10_result (rest := [.int v]) h2 k1 hz hw rfl rfl (Or.inr ⟨v, rfl⟩) d_932 ?_
  exact gl_eq C e d_935 (by decide) hn
theorem cs_quit {X : LT} {L : Nat} {xs : Nat → Int32} (C : LX X L xs) {i : Nat} (hi : i + 6 ≤ L) {u u1 u2 : MH} {v w : Int32} (k0 : kd u 0 = 9) (k1 : kd u1 188 = 10) (h1 : M_X9_quit [mR (some 0), mI (xs (i + 1))] u = some (some (mI v), u1)) (h2 : M_X10_quit [mR (some 188), mI (xs (i + 1))] u1 = some (some (mI w), u2)) (e : v = w) (hz : sz u2 ≤ 600000) (hw : sl u2 ≤ 7302250) (hn : Gl X i 1150 [] u2) : Gl X i 940 [] u := by
  have mo := (S_X10_quit _ _ _ _ h2).1
  refine gl_x C d_940 ?_
  refine gl_arg C (k := 1) (by omega) rfl d_941 d_942 d_943 d_944 d_945 ?_
  refine gl_call C S_X9_quit lc_X9_quit (rest := []) h1 k0 (by omega) (by omega) rfl rfl (Or.inl rfl) d_946 ?_
  refine gl_m C d_949 ?_
  refine gl_arg C (k := 1) (by omega) rfl d_950 d_951 d_952 d_953 d_954 ?_
  refine gl_call C S_X10_quit lc_X10_quit (rest := [.int v]) h2 k1 hz hw rfl rfl (Or.inr ⟨v, rfl⟩) d_955 ?_
  exact gl_eq C e d_958 (by decide) hn
theorem cs_trace {X : LT} {L : Nat} {xs : Nat → Int32} (C : LX X L xs) {i : Nat} (hi : i + 6 ≤ L) {u u1 u2 : MH} {v w : Int32} (k0 : kd u 0 = 9) (k1 : kd u1 188 = 10) (h1 : M_X9_trace [mR (some 0)] u = some (some (mI v), u1)) (h2 : M_X10_trace [mR (some 188)] u1 = some (some (mI w), u2)) (e : v = w) (hz : sz u2 ≤ 600000) (hw : sl u2 ≤ 7302250) (hn : Gl X i 1150 [] u2) : Gl X i 963 [] u := by
  have mo := (S_X10_trace _ _ _ _ h2).1
  refine gl_x C d_963 ?_
  refine gl_call C S_X9_trace lc_X9_trace (rest := []) h1 k0 (by omega) (by omega) rfl rfl (Or.inl rfl) d_964 ?_
  refine gl_m C d_967 ?_
  refine gl_call C S_X10_trace lc_X10_trace (rest := [.int v]) h2 k1 hz hw rfl rfl (Or.inr ⟨v, rfl⟩) d_968 ?_
  exact gl_eq C e d_971 (by decide) hn
theorem cs_loads {X : LT} {L : Nat} {xs : Nat → Int32} (C : LX X L xs) {i : Nat} (hi : i + 6 ≤ L) {u u1 u2 : MH} {v w : Int32} (k0 : kd u 0 = 9) (k1 : kd u1 188 = 10) (h1 : M_X9_loads [mR (some 0), mI (xs (i + 1))] u = some (some (mI v), u1)) (h2 : M_X10_loads [mR (some 188), mI (xs (i + 1))] u1 = some (some (mI w), u2)) (e : v = w) (hz : sz u2 ≤ 600000) (hw : sl u2 ≤ 7302250) (hn : Gl X i 1150 [] u2) : Gl X i 976 [] u := by
  have mo := (S_X10_loads _ _ _ _ h2).1
  refine gl_x C d_976 ?_
  refine gl_arg C (k := 1) (by omega) rfl d_977 d_978 d_979 d_980 d_981 ?_
  refine gl_call C S_X9_loads lc_X9_loads (rest := []) h1 k0 (by omega) (by omega) rfl rfl (Or.inl rfl) d_982 ?_
  refine gl_m C d_985 ?_
  refine gl_arg C (k := 1) (by omega) rfl d_986 d_987 d_988 d_989 d_990 ?_
  refine gl_call C S_X10_loads lc_X10_loads (rest := [.int v]) h2 k1 hz hw rfl rfl (Or.inr ⟨v, rfl⟩) d_991 ?_
  exact gl_eq C e d_994 (by decide) hn
theorem cs_least {X : LT} {L : Nat} {xs : Nat → Int32} (C : LX X L xs) {i : Nat} (hi : i + 6 ≤ L) {u u1 u2 : MH} {v w : Int32} (k0 : kd u 0 = 9) (k1 : kd u1 188 = 10) (h1 : M_X9_least [mR (some 0), mI (xs (i + 1))] u = some (some (mI v), u1)) (h2 : M_X10_least [mR (some 188), mI (xs (i + 1))] u1 = some (some (mI w), u2)) (e : v = w) (hz : sz u2 ≤ 600000) (hw : sl u2 ≤ 7302250) (hn : Gl X i 1150 [] u2) : Gl X i 999 [] u := by
  have mo := (S_X10_least _ _ _ _ h2).1
  refine gl_x C d_999 ?_
  refine gl_arg C (k := 1) (by omega) rfl d_1000 d_1001 d_1002 d_1003 d_1004 ?_
  refine gl_call C S_X9_least lc_X9_least (rest := []) h1 k0 (by omega) (by omega) rfl rfl (Or.inl rfl) d_1005 ?_
  refine gl_m C d_1008 ?_
  refine gl_arg C (k := 1) (by omega) rfl d_1009 d_1010 d_1011 d_1012 d_1013 ?_
  refine gl_call C S_X10_least lc_X10_least (rest := [.int v]) h2 k1 hz hw rfl rfl (Or.inr ⟨v, rfl⟩) d_1014 ?_
  exact gl_eq C e d_1017 (by decide) hn
theorem cs_see {X : LT} {L : Nat} {xs : Nat → Int32} (C : LX X L xs) {i : Nat} (hi : i + 6 ≤ L) {u u1 u2 : MH} {v w : Int32} (k0 : kd u 0 = 9) (k1 : kd u1 188 = 10) (h1 : M_X9_see [mR (some 0), mI (xs (i + 1))] u = some (some (mI v), u1)) (h2 : M_X10_see [mR (some 188), mI (xs (i + 1))] u1 = some (some (mI w), u2)) (e : v = w) (hz : sz u2 ≤ 600000) (hw : sl u2 ≤ 7302250) (hn : Gl X i 1150 [] u2) : Gl X i 1022 [] u := by
  have mo := (S_X10_see _ _ _ _ h2).1
  refine gl_x C d_1022 ?_
  refine gl_arg C (k := 1) (by omega) rfl d_1023 d_1024 d_1025 d_1026 d_1027 ?_
  refine gl_call C S_X9_see lc_X9_see (rest := []) h1 k0 (by omega) (by omega) rfl rfl (Or.inl rfl) d_1028 ?_
  refine gl_m C d_1031 ?_
  refine gl_arg C (k := 1) (by omega) rfl d_1032 d_1033 d_1034 d_1035 d_1036 ?_
  refine gl_call C S_X10_see lc_X10_see (rest := [.int v]) h2 k1 hz hw rfl rfl (Or.inr ⟨v, rfl⟩) d_1037 ?_
  exact gl_eq C e d_1040 (by decide) hn
theorem cs_fits {X : LT} {L : Nat} {xs : Nat → Int32} (C : LX X L xs) {i : Nat} (hi : i + 6 ≤ L) {u u1 u2 : MH} {v w : Int32} (k0 : kd u 0 = 9) (k1 : kd u1 188 = 10) (h1 : M_X9_fits [mR (some 0), mI (xs (i + 1))] u = some (some (mI v), u1)) (h2 : M_X10_fits [mR (some 188), mI (xs (i + 1))] u1 = some (some (mI w), u2)) (e : v = w) (hz : sz u2 ≤ 600000) (hw : sl u2 ≤ 7302250) (hn : Gl X i 1150 [] u2) : Gl X i 1045 [] u := by
  have mo := (S_X10_fits _ _ _ _ h2).1
  refine gl_x C d_1045 ?_
  refine gl_arg C (k := 1) (by omega) rfl d_1046 d_1047 d_1048 d_1049 d_1050 ?_
  refine gl_call C S_X9_fits lc_X9_fits (rest := []) h1 k0 (by omega) (by omega) rfl rfl (Or.inl rfl) d_1051 ?_
  refine gl_m C d_1054 ?_
  refine gl_arg C (k := 1) (by omega) rfl d_1055 d_1056 d_1057 d_1058 d_1059 ?_
  refine gl_call C S_X10_fits lc_X10_fits (rest := [.int v]) h2 k1 hz hw rfl rfl (Or.inr ⟨v, rfl⟩) d_1060 ?_
  exact gl_eq C e d_1063 (by decide) hn
theorem cs_tells {X : LT} {L : Nat} {xs : Nat → Int32} (C : LX X L xs) {i : Nat} (hi : i + 6 ≤ L) {u u1 u2 : MH} {v w : Int32} (k0 : kd u 0 = 9) (k1 : kd u1 188 = 10) (h1 : M_X9_tells [mR (some 0), mI (xs (i + 1))] u = some (some (mI v), u1)) (h2 : M_X10_tells [mR (some 188), mI (xs (i + 1))] u1 = some (some (mI w), u2)) (e : v = w) (hz : sz u2 ≤ 600000) (hw : sl u2 ≤ 7302250) (hn : Gl X i 1150 [] u2) : Gl X i 1068 [] u := by
  have mo := (S_X10_tells _ _ _ _ h2).1
  refine gl_x C d_1068 ?_
  refine gl_arg C (k := 1) (by omega) rfl d_1069 d_1070 d_1071 d_1072 d_1073 ?_
  refine gl_call C S_X9_tells lc_X9_tells (rest := []) h1 k0 (by omega) (by omega) rfl rfl (Or.inl rfl) d_1074 ?_
  refine gl_m C d_1077 ?_
  refine gl_arg C (k := 1) (by omega) rfl d_1078 d_1079 d_1080 d_1081 d_1082 ?_
  refine gl_call C S_X10_tells lc_X10_tells (rest := [.int v]) h2 k1 hz hw rfl rfl (Or.inr ⟨v, rfl⟩) d_1083 ?_
  exact gl_eq C e d_1086 (by decide) hn
theorem cs_undo {X : LT} {L : Nat} {xs : Nat → Int32} (C : LX X L xs) {i : Nat} (hi : i + 6 ≤ L) {u u1 u2 : MH} {v w : Int32} (k0 : kd u 0 = 9) (k1 : kd u1 188 = 10) (h1 : M_X9_undo [mR (some 0)] u = some (some (mI v), u1)) (h2 : M_X10_undo [mR (some 188)] u1 = some (some (mI w), u2)) (e : v = w) (hz : sz u2 ≤ 600000) (hw : sl u2 ≤ 7302250) (hn : Gl X i 1150 [] u2) : Gl X i 1091 [] u := by
  have mo := (S_X10_undo _ _ _ _ h2).1
  refine gl_x C d_1091 ?_
  refine gl_call C S_X9_undo lc_X9_undo (rest := []) h1 k0 (by omega) (by omega) rfl rfl (Or.inl rfl) d_1092 ?_
  refine gl_m C d_1095 ?_
  refine gl_call C S_X10_undo lc_X10_undo (rest := [.int v]) h2 k1 hz hw rfl rfl (Or.inr ⟨v, rfl⟩) d_1096 ?_
  exact gl_eq C e d_1099 (by decide) hn
theorem cs_seed {X : LT} {L : Nat} {xs : Nat → Int32} (C : LX X L xs) {i : Nat} (hi : i + 6 ≤ L) {u u1 u2 : MH} {v w : Int32} (k0 : kd u 0 = 9) (k1 : kd u1 188 = 10) (h1 : M_X9_seed [mR (some 0), mI (xs (i + 1))] u = some (some (mI v), u1)) (h2 : M_X10_seed [mR (some 188), mI (xs (i + 1))] u1 = some (some (mI w), u2)) (e : v = w) (hz : sz u2 ≤ 600000) (hw : sl u2 ≤ 7302250) (hn : Gl X i 1150 [] u2) : Gl X i 1104 [] u := by
  have mo := (S_X10_seed _ _ _ _ h2).1
  refine gl_x C d_1104 ?_
  refine gl_arg C (k := 1) (by omega) rfl d_1105 d_1106 d_1107 d_1108 d_1109 ?_
  refine gl_call C S_X9_seed lc_X9_seed (rest := []) h1 k0 (by omega) (by omega) rfl rfl (Or.inl rfl) d_1110 ?_
  refine gl_m C d_1113 ?_
  refine gl_arg C (k := 1) (by omega) rfl d_1114 d_1115 d_1116 d_1117 d_1118 ?_
  refine gl_call C S_X10_seed lc_X10_seed (rest := [.int v]) h2 k1 hz hw rfl rfl (Or.inr ⟨v, rfl⟩) d_1119 ?_
  exact gl_eq C e d_1122 (by decide) hn
theorem cs_status {X : LT} {L : Nat} {xs : Nat → Int32} (C : LX X L xs) {i : Nat} (hi : i + 6 ≤ L) {u u1 u2 : MH} {v w : Int32} (k0 : kd u 0 = 9) (k1 : kd u1 188 = 10) (h1 : M_X9_status [mR (some 0), mI (xs (i + 1))] u = some (some (mI v), u1)) (h2 : M_X10_status [mR (some 188), mI (xs (i + 1))] u1 = some (some (mI w), u2)) (e : v = w) (hz : sz u2 ≤ 600000) (hw : sl u2 ≤ 7302250) (hn : Gl X i 1150 [] u2) : Gl X i 1127 [] u := by
  have mo := (S_X10_status _ _ _ _ h2).1
  refine gl_x C d_1127 ?_
  refine gl_arg C (k := 1) (by omega) rfl d_1128 d_1129 d_1130 d_1131 d_1132 ?_
  refine gl_call C S_X9_status lc_X9_status (rest := []) h1 k0 (by omega) (by omega) rfl rfl (Or.inl rfl) d_1133 ?_
  refine gl_m C d_1136 ?_
  refine gl_arg C (k := 1) (by omega) rfl d_1137 d_1138 d_1139 d_1140 d_1141 ?_
  refine gl_call C S_X10_status lc_X10_status (rest := [.int v]) h2 k1 hz hw rfl rfl (Or.inr ⟨v, rfl⟩) d_1142 ?_
  exact gl_eq C e d_1145 (by decide) hn
