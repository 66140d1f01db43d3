theorem h8I {B : Nat} {v : Int} : ([tv B (0, v)].map fun v => v.category).sum ≤ 8 := (show (1 : Nat) ≤ 8 by decide)
theorem h8L {B : Nat} {v : Int} : ([tv B (1, v)].map fun v => v.category).sum ≤ 8 := (show (2 : Nat) ≤ 8 by decide)
theorem ca_0 {p : Program} {l : Launch} {e : Env} {s : State} {m : MethodId} {below : List Frame} {meth : Method} {c : Code} {b k n : Nat} {xs : Nat → Int32} {ls : Array Slot} {Λ : Lay} {σ : Mem} (C0 : lw_At p s m meth c b 6 xs) (hl : lv_has ls 4 [(3, .int 0), (2, .ref (s.heap.size + 646)), (1, .ref (s.heap.size + 0)), (0, .ref b)]) (hk : k ≤ 600000 ∧ n ≤ 7302250) (hD : DeskL 669 Λ 0) (h0 : Desk0 σ 0) (hM : ModL 669 Λ 646) (hZ : MZ σ 646) (hE : ∀ σ', LW p l e s m below meth c b k n 1461 ls [] 669 Λ σ') : LW p l e s m below meth c b k n 192 ls [] 669 Λ σ := by
  refine L_al C0 dl_192 rfl (lv_at hl 2 rfl) ?_
  refine L_arg 1 C0 hl dl_193 dl_194 dl_195 dl_196 dl_197 rfl (by decide) ?_
  refine L_arg 2 C0 hl dl_198 dl_199 dl_200 dl_201 dl_202 rfl (by decide) ?_
  refine L_arg 3 C0 hl dl_203 dl_204 dl_205 dl_206 dl_207 rfl (by decide) ?_
  refine L_arg 4 C0 hl dl_208 dl_209 dl_210 dl_211 dl_212 rfl (by decide) ?_
  refine L_arg 5 C0 hl dl_213 dl_214 dl_215 dl_216 dl_217 rfl (by decide) ?_
  refine L_callI (t := 0) (d := 10) (As := [(0, (xs 1).toInt), (0, (xs 2).toInt), (0, (xs 3).toInt), (0, (xs 4).toInt), (0, (xs 5).toInt)]) (rest := []) C0 hl dl_218 ok_mX11_feed ml_L_13 rfl (by decide) (by decide) hk (by decide) rfl (okl [xs 1, xs 2, xs 3, xs 4, xs 5]) kX11 hD.1 (kd_feed hD h0 (by decide) fun σ1 f1 => ?_)
  refine L_al C0 dl_221 rfl (lv_at hl 1 rfl) ?_
  refine L_arg 1 C0 hl dl_222 dl_223 dl_224 dl_225 dl_226 rfl (by decide) ?_
  refine L_arg 2 C0 hl dl_227 dl_228 dl_229 dl_230 dl_231 rfl (by decide) ?_
  refine L_arg 3 C0 hl dl_232 dl_233 dl_234 dl_235 dl_236 rfl (by decide) ?_
  refine L_arg 4 C0 hl dl_237 dl_238 dl_239 dl_240 dl_241 rfl (by decide) ?_
  refine L_arg 5 C0 hl dl_242 dl_243 dl_244 dl_245 dl_246 rfl (by decide) ?_
  refine L_callI (t := 646) (d := 10) (As := [(0, (xs 1).toInt), (0, (xs 2).toInt), (0, (xs 3).toInt), (0, (xs 4).toInt), (0, (xs 5).toInt)]) C0 hl dl_247 ok_mX12_feed ml_L_17 rfl (by decide) (by decide) hk h8I rfl (okl [xs 1, xs 2, xs 3, xs 4, xs 5]) kX12 hM.1 (km_feed hM (hZ.keep f1) fun σ2 => ?_)
  exact L_cmpI C0 dl_250 rfl (hE σ2)
theorem ca_1 {p : Program} {l : Launch} {e : Env} {s : State} {m : MethodId} {below : List Frame} {meth : Method} {c : Code} {b k n : Nat} {xs : Nat → Int32} {ls : Array Slot} {Λ : Lay} {σ : Mem} (C0 : lw_At p s m meth c b 6 xs) (hl : lv_has ls 4 [(3, .int 0), (2, .ref (s.heap.size + 646)), (1, .ref (s.heap.size + 0)), (0, .ref b)]) (hk : k ≤ 600000 ∧ n ≤ 7302250) (hD : DeskL 669 Λ 0) (h0 : Desk0 σ 0) (hM : ModL 669 Λ 646) (hZ : MZ σ 646) (hE : ∀ σ', LW p l e s m below meth c b k n 1461 ls [] 669 Λ σ') : LW p l e s m below meth c b k n 255 ls [] 669 Λ σ := by
  refine L_al C0 dl_255 rfl (lv_at hl 2 rfl) ?_
  refine L_arg 1 C0 hl dl_256 dl_257 dl_258 dl_259 dl_260 rfl (by decide) ?_
  refine L_arg 2 C0 hl dl_261 dl_262 dl_263 dl_264 dl_265 rfl (by decide) ?_
  refine L_callI (t := 0) (d := 10) (As := [(0, (xs 1).toInt), (0, (xs 2).toInt)]) (rest := []) C0 hl dl_266 ok_mX11_told ml_L_18 rfl (by decide) (by decide) hk (by decide) rfl (okl [xs 1, xs 2]) kX11 hD.1 (kd_told hD h0 (by decide) fun σ1 f1 => ?_)
  refine L_al C0 dl_269 rfl (lv_at hl 1 rfl) ?_
  refine L_arg 1 C0 hl dl_270 dl_271 dl_272 dl_273 dl_274 rfl (by decide) ?_
  refine L_arg 2 C0 hl dl_275 dl_276 dl_277 dl_278 dl_279 rfl (by decide) ?_
  refine L_callI (t := 646) (d := 10) (As := [(0, (xs 1).toInt), (0, (xs 2).toInt)]) C0 hl dl_280 ok_mX12_told ml_L_22 rfl (by decide) (by decide) hk h8I rfl (okl [xs 1, xs 2]) kX12 hM.1 (km_told hM (hZ.keep f1) (by decide) fun σ2 => ?_)
  exact L_cmpI C0 dl_283 rfl (hE σ2)
theorem ca_2 {p : Program} {l : Launch} {e : Env} {s : State} {m : MethodId} {below : List Frame} {meth : Method} {c : Code} {b k n : Nat} {xs : Nat → Int32} {ls : Array Slot} {Λ : Lay} {σ : Mem} (C0 : lw_At p s m meth c b 6 xs) (hl : lv_has ls 4 [(3, .int 0), (2, .ref (s.heap.size + 646)), (1, .ref (s.heap.size + 0)), (0, .ref b)]) (hk : k ≤ 600000 ∧ n ≤ 7302250) (hD : DeskL 669 Λ 0) (h0 : Desk0 σ 0) (hM : ModL 669 Λ 646) (hZ : MZ σ 646) (hE : ∀ σ', LW p l e s m below meth c b k n 1461 ls [] 669 Λ σ') : LW p l e s m below meth c b k n 288 ls [] 669 Λ σ := by
  refine L_al C0 dl_288 rfl (lv_at hl 2 rfl) ?_
  refine L_arg 1 C0 hl dl_289 dl_290 dl_291 dl_292 dl_293 rfl (by decide) ?_
  refine L_arg 2 C0 hl dl_294 dl_295 dl_296 dl_297 dl_298 rfl (by decide) ?_
  refine L_callI (t := 0) (d := 10) (As := [(0, (xs 1).toInt), (0, (xs 2).toInt)]) (rest := []) C0 hl dl_299 ok_mX11_figure ml_L_23 rfl (by decide) (by decide) hk (by decide) rfl (okl [xs 1, xs 2]) kX11 hD.1 (kd_figure hD h0 (by decide) fun σ1 f1 => ?_)
  refine L_al C0 dl_302 rfl (lv_at hl 1 rfl) ?_
  refine L_arg 1 C0 hl dl_303 dl_304 dl_305 dl_306 dl_307 rfl (by decide) ?_
  refine L_arg 2 C0 hl dl_308 dl_309 dl_310 dl_311 dl_312 rfl (by decide) ?_
  refine L_callI (t := 646) (d := 10) (As := [(0, (xs 1).toInt), (0, (xs 2).toInt)]) C0 hl dl_313 ok_mX12_figure ml_L_26 rfl (by decide) (by decide) hk h8I rfl (okl [xs 1, xs 2]) kX12 hM.1 (km_figure hM (hZ.keep f1) (by decide) fun σ2 => ?_)
  exact L_cmpI C0 dl_316 rfl (hE σ2)
theorem ca_3 {p : Program} {l : Launch} {e : Env} {s : State} {m : MethodId} {below : List Frame} {meth : Method} {c : Code} {b k n : Nat} {xs : Nat → Int32} {ls : Array Slot} {Λ : Lay} {σ : Mem} (C0 : lw_At p s m meth c b 6 xs) (hl : lv_has ls 4 [(3, .int 0), (2, .ref (s.heap.size + 646)), (1, .ref (s.heap.size + 0)), (0, .ref b)]) (hk : k ≤ 600000 ∧ n ≤ 7302250) (hD : DeskL 669 Λ 0) (h0 : Desk0 σ 0) (hM : ModL 669 Λ 646) (hZ : MZ σ 646) (hE : ∀ σ', LW p l e s m below meth c b k n 1461 ls [] 669 Λ σ') : LW p l e s m below meth c b k n 321 ls [] 669 Λ σ := by
  refine L_al C0 dl_321 rfl (lv_at hl 2 rfl) ?_
  refine L_arg 1 C0 hl dl_322 dl_323 dl_324 dl_325 dl_326 rfl (by decide) ?_
  refine L_callI (t := 0) (d := 10) (As := [(0, (xs 1).toInt)]) (rest := []) C0 hl dl_327 ok_mX11_fault ml_L_27 rfl (by decide) (by decide) hk (by decide) rfl (okl [xs 1]) kX11 hD.1 (kd_fault hD h0 fun σ1 f1 => ?_)
  refine L_al C0 dl_330 rfl (lv_at hl 1 rfl) ?_
  refine L_arg 1 C0 hl dl_331 dl_332 dl_333 dl_334 dl_335 rfl (by decide) ?_
  refine L_callI (t := 646) (d := 10) (As := [(0, (xs 1).toInt)]) C0 hl dl_336 ok_mX12_fault ml_L_31 rfl (by decide) (by decide) hk h8I rfl (okl [xs 1]) kX12 hM.1 (km_fault hM (hZ.keep f1) fun σ2 => ?_)
  exact L_cmpI C0 dl_339 rfl (hE σ2)
theorem ca_4 {p : Program} {l : Launch} {e : Env} {s : State} {m : MethodId} {below : List Frame} {meth : Method} {c : Code} {b k n : Nat} {xs : Nat → Int32} {ls : Array Slot} {Λ : Lay} {σ : Mem} (C0 : lw_At p s m meth c b 6 xs) (hl : lv_has ls 4 [(3, .int 0), (2, .ref (s.heap.size + 646)), (1, .ref (s.heap.size + 0)), (0, .ref b)]) (hk : k ≤ 600000 ∧ n ≤ 7302250) (hD : DeskL 669 Λ 0) (h0 : Desk0 σ 0) (hM : ModL 669 Λ 646) (hZ : MZ σ 646) (hE : ∀ σ', LW p l e s m below meth c b k n 1461 ls [] 669 Λ σ') : LW p l e s m below meth c b k n 344 ls [] 669 Λ σ := by
  refine L_al C0 dl_344 rfl (lv_at hl 2 rfl) ?_
  refine L_callI (t := 0) (d := 10) (As := []) (rest := []) C0 hl dl_345 ok_mX11_why ml_L_32 rfl (by decide) (by decide) hk (by decide) rfl (okl []) kX11 hD.1 (kd_why hD h0 fun σ1 f1 => ?_)
  refine L_al C0 dl_348 rfl (lv_at hl 1 rfl) ?_
  refine L_callI (t := 646) (d := 10) (As := []) C0 hl dl_349 ok_mX12_why ml_L_36 rfl (by decide) (by decide) hk h8I rfl (okl []) kX12 hM.1 (km_why hM (hZ.keep f1) fun σ2 => ?_)
  exact L_cmpI C0 dl_352 rfl (hE σ2)
theorem ca_5 {p : Program} {l : Launch} {e : Env} {s : State} {m : MethodId} {below : List Frame} {meth : Method} {c : Code} {b k n : Nat} {xs : Nat → Int32} {ls : Array Slot} {Λ : Lay} {σ : Mem} (C0 : lw_At p s m meth c b 6 xs) (hl : lv_has ls 4 [(3, .int 0), (2, .ref (s.heap.size + 646)), (1, .ref (s.heap.size + 0)), (0, .ref b)]) (hk : k ≤ 600000 ∧ n ≤ 7302250) (hD : DeskL 669 Λ 0) (h0 : Desk0 σ 0) (hM : ModL 669 Λ 646) (hZ : MZ σ 646) (hE : ∀ σ', LW p l e s m below meth c b k n 1461 ls [] 669 Λ σ') : LW p l e s m below meth c b k n 357 ls [] 669 Λ σ := by
  refine L_al C0 dl_357 rfl (lv_at hl 2 rfl) ?_
  refine L_arg 1 C0 hl dl_358 dl_359 dl_360 dl_361 dl_362 rfl (by decide) ?_
  refine L_callI (t := 0) (d := 10) (As := [(0, (xs 1).toInt)]) (rest := []) C0 hl dl_363 ok_mX11_clear ml_L_37 rfl (by decide) (by decide) hk (by decide) rfl (okl [xs 1]) kX11 hD.1 (kd_clear hD h0 (by decide) fun σ1 f1 => ?_)
  refine L_al C0 dl_366 rfl (lv_at hl 1 rfl) ?_
  refine L_arg 1 C0 hl dl_367 dl_368 dl_369 dl_370 dl_371 rfl (by decide) ?_
  refine L_callI (t := 646) (d := 10) (As := [(0, (xs 1).toInt)]) C0 hl dl_372 ok_mX12_clear ml_L_40 rfl (by decide) (by decide) hk h8I rfl (okl [xs 1]) kX12 hM.1 (km_clear hM (hZ.keep f1) (by decide) fun σ2 => ?_)
  exact L_cmpI C0 dl_375 rfl (hE σ2)
theorem ca_6 {p : Program} {l : Launch} {e : Env} {s : State} {m : MethodId} {below : List Frame} {meth : Method} {c : Code} {b k n : Nat} {xs : Nat → Int32} {ls : Array Slot} {Λ : Lay} {σ : Mem} (C0 : lw_At p s m meth c b 6 xs) (hl : lv_has ls 4 [(3, .int 0), (2, .ref (s.heap.size + 646)), (1, .ref (s.heap.size + 0)), (0, .ref b)]) (hk : k ≤ 600000 ∧ n ≤ 7302250) (hD : DeskL 669 Λ 0) (h0 : Desk0 σ 0) (hM : ModL 669 Λ 646) (hZ : MZ σ 646) (hE : ∀ σ', LW p l e s m below meth c b k n 1461 ls [] 669 Λ σ') : LW p l e s m below meth c b k n 380 ls [] 669 Λ σ := by
  refine L_al C0 dl_380 rfl (lv_at hl 2 rfl) ?_
  refine L_arg 1 C0 hl dl_381 dl_382 dl_383 dl_384 dl_385 rfl (by decide) ?_
  refine L_arg 2 C0 hl dl_386 dl_387 dl_388 dl_389 dl_390 rfl (by decide) ?_
  refine L_callI (t := 0) (d := 10) (As := [(0, (xs 1).toInt), (0, (xs 2).toInt)]) (rest := []) C0 hl dl_391 ok_mX11_copy ml_L_41 rfl (by decide) (by decide) hk (by decide) rfl (okl [xs 1, xs 2]) kX11 hD.1 (kd_copy hD h0 (by decide) fun σ1 f1 => ?_)
  refine L_al C0 dl_394 rfl (lv_at hl 1 rfl) ?_
  refine L_arg 1 C0 hl dl_395 dl_396 dl_397 dl_398 dl_399 rfl (by decide) ?_
  refine L_arg 2 C0 hl dl_400 dl_401 dl_402 dl_403 dl_404 rfl (by decide) ?_
  refine L_callI (t := 646) (d := 10) (As := [(0, (xs 1).toInt), (0, (xs 2).toInt)]) C0 hl dl_405 ok_mX12_copy ml_L_44 rfl (by decide) (by decide) hk h8I rfl (okl [xs 1, xs 2]) kX12 hM.1 (km_copy hM (hZ.keep f1) (by decide) fun σ2 => ?_)
  exact L_cmpI C0 dl_408 rfl (hE σ2)
theorem ca_7 {p : Program} {l : Launch} {e : Env} {s : State} {m : MethodId} {below : List Frame} {meth : Method} {c : Code} {b k n : Nat} {xs : Nat → Int32} {ls : Array Slot} {Λ : Lay} {σ : Mem} (C0 : lw_At p s m meth c b 6 xs) (hl : lv_has ls 4 [(3, .int 0), (2, .ref (s.heap.size + 646)), (1, .ref (s.heap.size + 0)), (0, .ref b)]) (hk : k ≤ 600000 ∧ n ≤ 7302250) (hD : DeskL 669 Λ 0) (h0 : Desk0 σ 0) (hM : ModL 669 Λ 646) (hZ : MZ σ 646) (hE : ∀ σ', LW p l e s m below meth c b k n 1461 ls [] 669 Λ σ') : LW p l e s m below meth c b k n 413 ls [] 669 Λ σ := by
  refine L_al C0 dl_413 rfl (lv_at hl 2 rfl) ?_
  refine L_arg 1 C0 hl dl_414 dl_415 dl_416 dl_417 dl_418 rfl (by decide) ?_
  refine L_arg 2 C0 hl dl_419 dl_420 dl_421 dl_422 dl_423 rfl (by decide) ?_
  refine L_arg 3 C0 hl dl_424 dl_425 dl_426 dl_427 dl_428 rfl (by decide) ?_
  refine L_arg 4 C0 hl dl_429 dl_430 dl_431 dl_432 dl_433 rfl (by decide) ?_
  refine L_callI (t := 0) (d := 10) (As := [(0, (xs 1).toInt), (0, (xs 2).toInt), (0, (xs 3).toInt), (0, (xs 4).toInt)]) (rest := []) C0 hl dl_434 ok_mX11_bracket ml_L_45 rfl (by decide) (by decide) hk (by decide) rfl (okl [xs 1, xs 2, xs 3, xs 4]) kX11 hD.1 (kd_bracket hD h0 (by decide) fun σ1 f1 => ?_)
  refine L_al C0 dl_437 rfl (lv_at hl 1 rfl) ?_
  refine L_arg 1 C0 hl dl_438 dl_439 dl_440 dl_441 dl_442 rfl (by decide) ?_
  refine L_arg 2 C0 hl dl_443 dl_444 dl_445 dl_446 dl_447 rfl (by decide) ?_
  refine L_arg 3 C0 hl dl_448 dl_449 dl_450 dl_451 dl_452 rfl (by decide) ?_
  refine L_arg 4 C0 hl dl_453 dl_454 dl_455 dl_456 dl_457 rfl (by decide) ?_
  refine L_callI (t := 646) (d := 10) (As := [(0, (xs 1).toInt), (0, (xs 2).toInt), (0, (xs 3).toInt), (0, (xs 4).toInt)]) C0 hl dl_458 ok_mX12_bracket ml_L_49 rfl (by decide) (by decide) hk h8I rfl (okl [xs 1, xs 2, xs 3, xs 4]) kX12 hM.1 (km_bracket hM (hZ.keep f1) (by decide) fun σ2 => ?_)
  exact L_cmpI C0 dl_461 rfl (hE σ2)
theorem ca_8 {p : Program} {l : Launch} {e : Env} {s : State} {m : MethodId} {below : List Frame} {meth : Method} {c : Code} {b k n : Nat} {xs : Nat → Int32} {ls : Array Slot} {Λ : Lay} {σ : Mem} (C0 : lw_At p s m meth c b 6 xs) (hl : lv_has ls 4 [(3, .int 0), (2, .ref (s.heap.size + 646)), (1, .ref (s.heap.size + 0)), (0, .ref b)]) (hk : k ≤ 600000 ∧ n ≤ 7302250) (hD : DeskL 669 Λ 0) (h0 : Desk0 σ 0) (hM : ModL 669 Λ 646) (hZ : MZ σ 646) (hE : ∀ σ', LW p l e s m below meth c b k n 1461 ls [] 669 Λ σ') : LW p l e s m below meth c b k n 466 ls [] 669 Λ σ := by
  refine L_al C0 dl_466 rfl (lv_at hl 2 rfl) ?_
  refine L_arg 1 C0 hl dl_467 dl_468 dl_469 dl_470 dl_471 rfl (by decide) ?_
  refine L_arg 2 C0 hl dl_472 dl_473 dl_474 dl_475 dl_476 rfl (by decide) ?_
  refine L_arg 3 C0 hl dl_477 dl_478 dl_479 dl_480 dl_481 rfl (by decide) ?_
  refine L_arg 4 C0 hl dl_482 dl_483 dl_484 dl_485 dl_486 rfl (by decide) ?_
  refine L_callI (t := 0) (d := 10) (As := [(0, (xs 1).toInt), (0, (xs 2).toInt), (0, (xs 3).toInt), (0, (xs 4).toInt)]) (rest := []) C0 hl dl_487 ok_mX11_exchange ml_L_50 rfl (by decide) (by decide) hk (by decide) rfl (okl [xs 1, xs 2, xs 3, xs 4]) kX11 hD.1 (kd_exchange hD h0 (by decide) fun σ1 f1 => ?_)
  refine L_al C0 dl_490 rfl (lv_at hl 1 rfl) ?_
  refine L_arg 1 C0 hl dl_491 dl_492 dl_493 dl_494 dl_495 rfl (by decide) ?_
  refine L_arg 2 C0 hl dl_496 dl_497 dl_498 dl_499 dl_500 rfl (by decide) ?_
  refine L_arg 3 C0 hl dl_501 dl_502 dl_503 dl_504 dl_505 rfl (by decide) ?_
  refine L_arg 4 C0 hl dl_506 dl_507 dl_508 dl_509 dl_510 rfl (by decide) ?_
  refine L_callI (t := 646) (d := 10) (As := [(0, (xs 1).toInt), (0, (xs 2).toInt), (0, (xs 3).toInt), (0, (xs 4).toInt)]) C0 hl dl_511 ok_mX12_exchange ml_L_53 rfl (by decide) (by decide) hk h8I rfl (okl [xs 1, xs 2, xs 3, xs 4]) kX12 hM.1 (km_exchange hM (hZ.keep f1) (by decide) fun σ2 => ?_)
  exact L_cmpI C0 dl_514 rfl (hE σ2)
theorem ca_9 {p : Program} {l : Launch} {e : Env} {s : State} {m : MethodId} {below : List Frame} {meth : Method} {c : Code} {b k n : Nat} {xs : Nat → Int32} {ls : Array Slot} {Λ : Lay} {σ : Mem} (C0 : lw_At p s m meth c b 6 xs) (hl : lv_has ls 4 [(3, .int 0), (2, .ref (s.heap.size + 646)), (1, .ref (s.heap.size + 0)), (0, .ref b)]) (hk : k ≤ 600000 ∧ n ≤ 7302250) (hD : DeskL 669 Λ 0) (h0 : Desk0 σ 0) (hM : ModL 669 Λ 646) (hZ : MZ σ 646) (hE : ∀ σ', LW p l e s m below meth c b k n 1461 ls [] 669 Λ σ') : LW p l e s m below meth c b k n 519 ls [] 669 Λ σ := by
  refine L_al C0 dl_519 rfl (lv_at hl 2 rfl) ?_
  refine L_arg 1 C0 hl dl_520 dl_521 dl_522 dl_523 dl_524 rfl (by decide) ?_
  refine L_arg 2 C0 hl dl_525 dl_526 dl_527 dl_528 dl_529 rfl (by decide) ?_
  refine L_arg 3 C0 hl dl_530 dl_531 dl_532 dl_533 dl_534 rfl (by decide) ?_
  refine L_arg 4 C0 hl dl_535 dl_536 dl_537 dl_538 dl_539 rfl (by decide) ?_
  refine L_arg 5 C0 hl dl_540 dl_541 dl_542 dl_543 dl_544 rfl (by decide) ?_
  refine L_callI (t := 0) (d := 10) (As := [(0, (xs 1).toInt), (0, (xs 2).toInt), (0, (xs 3).toInt), (0, (xs 4).toInt), (0, (xs 5).toInt)]) (rest := []) C0 hl dl_545 ok_mX11_add ml_L_54 rfl (by decide) (by decide) hk (by decide) rfl (okl [xs 1, xs 2, xs 3, xs 4, xs 5]) kX11 hD.1 (kd_add hD h0 (by decide) fun σ1 f1 => ?_)
  refine L_al C0 dl_548 rfl (lv_at hl 1 rfl) ?_
  refine L_arg 1 C0 hl dl_549 dl_550 dl_551 dl_552 dl_553 rfl (by decide) ?_
  refine L_arg 2 C0 hl dl_554 dl_555 dl_556 dl_557 dl_558 rfl (by decide) ?_
  refine L_arg 3 C0 hl dl_559 dl_560 dl_561 dl_562 dl_563 rfl (by decide) ?_
  refine L_arg 4 C0 hl dl_564 dl_565 dl_566 dl_567 dl_568 rfl (by decide) ?_
  refine L_arg 5 C0 hl dl_569 dl_570 dl_571 dl_572 dl_573 rfl (by decide) ?_
  refine L_callI (t := 646) (d := 10) (As := [(0, (xs 1).toInt), (0, (xs 2).toInt), (0, (xs 3).toInt), (0, (xs 4).toInt), (0, (xs 5).toInt)]) C0 hl dl_574 ok_mX12_add ml_L_57 rfl (by decide) (by decide) hk h8I rfl (okl [xs 1, xs 2, xs 3, xs 4, xs 5]) kX12 hM.1 (km_add hM (hZ.keep f1) (by decide) fun σ2 => ?_)
  exact L_cmpI C0 dl_577 rfl (hE σ2)
theorem ca_10 {p : Program} {l : Launch} {e : Env} {s : State} {m : MethodId} {below : List Frame} {meth : Method} {c : Code} {b k n : Nat} {xs : Nat → Int32} {ls : Array Slot} {Λ : Lay} {σ : Mem} (C0 : lw_At p s m meth c b 6 xs) (hl : lv_has ls 4 [(3, .int 0), (2, .ref (s.heap.size + 646)), (1, .ref (s.heap.size + 0)), (0, .ref b)]) (hk : k ≤ 600000 ∧ n ≤ 7302250) (hD : DeskL 669 Λ 0) (h0 : Desk0 σ 0) (hM : ModL 669 Λ 646) (hZ : MZ σ 646) (hE : ∀ σ', LW p l e s m below meth c b k n 1461 ls [] 669 Λ σ') : LW p l e s m below meth c b k n 582 ls [] 669 Λ σ := by
  refine L_al C0 dl_582 rfl (lv_at hl 2 rfl) ?_
  refine L_arg 1 C0 hl dl_583 dl_584 dl_585 dl_586 dl_587 rfl (by decide) ?_
  refine L_arg 2 C0 hl dl_588 dl_589 dl_590 dl_591 dl_592 rfl (by decide) ?_
  refine L_arg 3 C0 hl dl_593 dl_594 dl_595 dl_596 dl_597 rfl (by decide) ?_
  refine L_callI (t := 0) (d := 10) (As := [(0, (xs 1).toInt), (0, (xs 2).toInt), (0, (xs 3).toInt)]) (rest := []) C0 hl dl_598 ok_mX11_times ml_L_58 rfl (by decide) (by decide) hk (by decide) rfl (okl [xs 1, xs 2, xs 3]) kX11 hD.1 (kd_times hD h0 (by decide) fun σ1 f1 => ?_)
  refine L_al C0 dl_601 rfl (lv_at hl 1 rfl) ?_
  refine L_arg 1 C0 hl dl_602 dl_603 dl_604 dl_605 dl_606 rfl (by decide) ?_
  refine L_arg 2 C0 hl dl_607 dl_608 dl_609 dl_610 dl_611 rfl (by decide) ?_
  refine L_arg 3 C0 hl dl_612 dl_613 dl_614 dl_615 dl_616 rfl (by decide) ?_
  refine L_callI (t := 646) (d := 10) (As := [(0, (xs 1).toInt), (0, (xs 2).toInt), (0, (xs 3).toInt)]) C0 hl dl_617 ok_mX12_times ml_L_62 rfl (by decide) (by decide) hk h8I rfl (okl [xs 1, xs 2, xs 3]) kX12 hM.1 (km_times hM (hZ.keep f1) (by decide) fun σ2 => ?_)
  exact L_cmpI C0 dl_620 rfl (hE σ2)
theorem ca_11 {p : Program} {l : Launch} {e : Env} {s : State} {m : MethodId} {below : List Frame} {meth : Method} {c : Code} {b k n : Nat} {xs : Nat → Int32} {ls : Array Slot} {Λ : Lay} {σ : Mem} (C0 : lw_At p s m meth c b 6 xs) (hl : lv_has ls 4 [(3, .int 0), (2, .ref (s.heap.size + 646)), (1, .ref (s.heap.size + 0)), (0, .ref b)]) (hk : k ≤ 600000 ∧ n ≤ 7302250) (hD : DeskL 669 Λ 0) (h0 : Desk0 σ 0) (hM : ModL 669 Λ 646) (hZ : MZ σ 646) (hE : ∀ σ', LW p l e s m below meth c b k n 1461 ls [] 669 Λ σ') : LW p l e s m below meth c b k n 625 ls [] 669 Λ σ := by
  refine L_al C0 dl_625 rfl (lv_at hl 2 rfl) ?_
  refine L_arg 1 C0 hl dl_626 dl_627 dl_628 dl_629 dl_630 rfl (by decide) ?_
  refine L_arg 2 C0 hl dl_631 dl_632 dl_633 dl_634 dl_635 rfl (by decide) ?_
  refine L_arg 3 C0 hl dl_636 dl_637 dl_638 dl_639 dl_640 rfl (by decide) ?_
  refine L_arg 4 C0 hl dl_641 dl_642 dl_643 dl_644 dl_645 rfl (by decide) ?_
  refine L_callI (t := 0) (d := 10) (As := [(0, (xs 1).toInt), (0, (xs 2).toInt), (0, (xs 3).toInt), (0, (xs 4).toInt)]) (rest := []) C0 hl dl_646 ok_mX11_put ml_L_63 rfl (by decide) (by decide) hk (by decide) rfl (okl [xs 1, xs 2, xs 3, xs 4]) kX11 hD.1 (kd_put hD h0 (by decide) fun σ1 f1 => ?_)
  refine L_al C0 dl_649 rfl (lv_at hl 1 rfl) ?_
  refine L_arg 1 C0 hl dl_650 dl_651 dl_652 dl_653 dl_654 rfl (by decide) ?_
  refine L_arg 2 C0 hl dl_655 dl_656 dl_657 dl_658 dl_659 rfl (by decide) ?_
  refine L_arg 3 C0 hl dl_660 dl_661 dl_662 dl_663 dl_664 rfl (by decide) ?_
  refine L_arg 4 C0 hl dl_665 dl_666 dl_667 dl_668 dl_669 rfl (by decide) ?_
  refine L_callI (t := 646) (d := 10) (As := [(0, (xs 1).toInt), (0, (xs 2).toInt), (0, (xs 3).toInt), (0, (xs 4).toInt)]) C0 hl dl_670 ok_mX12_put ml_L_66 rfl (by decide) (by decide) hk h8I rfl (okl [xs 1, xs 2, xs 3, xs 4]) kX12 hM.1 (km_put hM (hZ.keep f1) (by decide) fun σ2 => ?_)
  exact L_cmpI C0 dl_673 rfl (hE σ2)
theorem ca_12 {p : Program} {l : Launch} {e : Env} {s : State} {m : MethodId} {below : List Frame} {meth : Method} {c : Code} {b k n : Nat} {xs : Nat → Int32} {ls : Array Slot} {Λ : Lay} {σ : Mem} (C0 : lw_At p s m meth c b 6 xs) (hl : lv_has ls 4 [(3, .int 0), (2, .ref (s.heap.size + 646)), (1, .ref (s.heap.size + 0)), (0, .ref b)]) (hk : k ≤ 600000 ∧ n ≤ 7302250) (hD : DeskL 669 Λ 0) (h0 : Desk0 σ 0) (hM : ModL 669 Λ 646) (hZ : MZ σ 646) (hE : ∀ σ', LW p l e s m below meth c b k n 1461 ls [] 669 Λ σ') : LW p l e s m below meth c b k n 678 ls [] 669 Λ σ := by
  refine L_al C0 dl_678 rfl (lv_at hl 2 rfl) ?_
  refine L_arg 1 C0 hl dl_679 dl_680 dl_681 dl_682 dl_683 rfl (by decide) ?_
  refine L_arg 2 C0 hl dl_684 dl_685 dl_686 dl_687 dl_688 rfl (by decide) ?_
  refine L_arg 3 C0 hl dl_689 dl_690 dl_691 dl_692 dl_693 rfl (by decide) ?_
  refine L_arg 4 C0 hl dl_694 dl_695 dl_696 dl_697 dl_698 rfl (by decide) ?_
  refine L_callI (t := 0) (d := 10) (As := [(0, (xs 1).toInt), (0, (xs 2).toInt), (0, (xs 3).toInt), (0, (xs 4).toInt)]) (rest := []) C0 hl dl_699 ok_mX11_turn ml_L_67 rfl (by decide) (by decide) hk (by decide) rfl (okl [xs 1, xs 2, xs 3, xs 4]) kX11 hD.1 (kd_turn hD h0 (by decide) fun σ1 f1 => ?_)
  refine L_al C0 dl_702 rfl (lv_at hl 1 rfl) ?_
  refine L_arg 1 C0 hl dl_703 dl_704 dl_705 dl_706 dl_707 rfl (by decide) ?_
  refine L_arg 2 C0 hl dl_708 dl_709 dl_710 dl_711 dl_712 rfl (by decide) ?_
  refine L_arg 3 C0 hl dl_713 dl_714 dl_715 dl_716 dl_717 rfl (by decide) ?_
  refine L_arg 4 C0 hl dl_718 dl_719 dl_720 dl_721 dl_722 rfl (by decide) ?_
  refine L_callI (t := 646) (d := 10) (As := [(0, (xs 1).toInt), (0, (xs 2).toInt), (0, (xs 3).toInt), (0, (xs 4).toInt)]) C0 hl dl_723 ok_mX12_turn ml_L_70 rfl (by decide) (by decide) hk h8I rfl (okl [xs 1, xs 2, xs 3, xs 4]) kX12 hM.1 (km_turn hM (hZ.keep f1) (by decide) fun σ2 => ?_)
  exact L_cmpI C0 dl_726 rfl (hE σ2)
theorem ca_13 {p : Program} {l : Launch} {e : Env} {s : State} {m : MethodId} {below : List Frame} {meth : Method} {c : Code} {b k n : Nat} {xs : Nat → Int32} {ls : Array Slot} {Λ : Lay} {σ : Mem} (C0 : lw_At p s m meth c b 6 xs) (hl : lv_has ls 4 [(3, .int 0), (2, .ref (s.heap.size + 646)), (1, .ref (s.heap.size + 0)), (0, .ref b)]) (hk : k ≤ 600000 ∧ n ≤ 7302250) (hD : DeskL 669 Λ 0) (h0 : Desk0 σ 0) (hM : ModL 669 Λ 646) (hZ : MZ σ 646) (hE : ∀ σ', LW p l e s m below meth c b k n 1461 ls [] 669 Λ σ') : LW p l e s m below meth c b k n 731 ls [] 669 Λ σ := by
  refine L_al C0 dl_731 rfl (lv_at hl 2 rfl) ?_
  refine L_arg 1 C0 hl dl_732 dl_733 dl_734 dl_735 dl_736 rfl (by decide) ?_
  refine L_arg 2 C0 hl dl_737 dl_738 dl_739 dl_740 dl_741 rfl (by decide) ?_
  refine L_callI (t := 0) (d := 10) (As := [(0, (xs 1).toInt), (0, (xs 2).toInt)]) (rest := []) C0 hl dl_742 ok_mX11_straight ml_L_71 rfl (by decide) (by decide) hk (by decide) rfl (okl [xs 1, xs 2]) kX11 hD.1 (kd_straight hD h0 (by decide) fun σ1 f1 => ?_)
  refine L_al C0 dl_745 rfl (lv_at hl 1 rfl) ?_
  refine L_arg 1 C0 hl dl_746 dl_747 dl_748 dl_749 dl_750 rfl (by decide) ?_
  refine L_arg 2 C0 hl dl_751 dl_752 dl_753 dl_754 dl_755 rfl (by decide) ?_
  refine L_callI (t := 646) (d := 10) (As := [(0, (xs 1).toInt), (0, (xs 2).toInt)]) C0 hl dl_756 ok_mX12_straight ml_L_74 rfl (by decide) (by decide) hk h8I rfl (okl [xs 1, xs 2]) kX12 hM.1 (km_straight hM (hZ.keep f1) (by decide) fun σ2 => ?_)
  exact L_cmpI C0 dl_759 rfl (hE σ2)
theorem ca_14 {p : Program} {l : Launch} {e : Env} {s : State} {m : MethodId} {below : List Frame} {meth : Method} {c : Code} {b k n : Nat} {xs : Nat → Int32} {ls : Array Slot} {Λ : Lay} {σ : Mem} (C0 : lw_At p s m meth c b 6 xs) (hl : lv_has ls 4 [(3, .int 0), (2, .ref (s.heap.size + 646)), (1, .ref (s.heap.size + 0)), (0, .ref b)]) (hk : k ≤ 600000 ∧ n ≤ 7302250) (hD : DeskL 669 Λ 0) (h0 : Desk0 σ 0) (hM : ModL 669 Λ 646) (hZ : MZ σ 646) (hE : ∀ σ', LW p l e s m below meth c b k n 1461 ls [] 669 Λ σ') : LW p l e s m below meth c b k n 764 ls [] 669 Λ σ := by
  refine L_al C0 dl_764 rfl (lv_at hl 2 rfl) ?_
  refine L_arg 1 C0 hl dl_765 dl_766 dl_767 dl_768 dl_769 rfl (by decide) ?_
  refine L_arg 2 C0 hl dl_770 dl_771 dl_772 dl_773 dl_774 rfl (by decide) ?_
  refine L_callI (t := 0) (d := 10) (As := [(0, (xs 1).toInt), (0, (xs 2).toInt)]) (rest := []) C0 hl dl_775 ok_mX11_reduce ml_L_75 rfl (by decide) (by decide) hk (by decide) rfl (okl [xs 1, xs 2]) kX11 hD.1 (kd_reduce hD h0 (by decide) fun σ1 f1 => ?_)
  refine L_al C0 dl_778 rfl (lv_at hl 1 rfl) ?_
  refine L_arg 1 C0 hl dl_779 dl_780 dl_781 dl_782 dl_783 rfl (by decide) ?_
  refine L_arg 2 C0 hl dl_784 dl_785 dl_786 dl_787 dl_788 rfl (by decide) ?_
  refine L_callI (t := 646) (d := 10) (As := [(0, (xs 1).toInt), (0, (xs 2).toInt)]) C0 hl dl_789 ok_mX12_reduce ml_L_78 rfl (by decide) (by decide) hk h8I rfl (okl [xs 1, xs 2]) kX12 hM.1 (km_reduce hM (hZ.keep f1) (by decide) fun σ2 => ?_)
  exact L_cmpI C0 dl_792 rfl (hE σ2)
theorem ca_15 {p : Program} {l : Launch} {e : Env} {s : State} {m : MethodId} {below : List Frame} {meth : Method} {c : Code} {b k n : Nat} {xs : Nat → Int32} {ls : Array Slot} {Λ : Lay} {σ : Mem} (C0 : lw_At p s m meth c b 6 xs) (hl : lv_has ls 4 [(3, .int 0), (2, .ref (s.heap.size + 646)), (1, .ref (s.heap.size + 0)), (0, .ref b)]) (hk : k ≤ 600000 ∧ n ≤ 7302250) (hD : DeskL 669 Λ 0) (h0 : Desk0 σ 0) (hM : ModL 669 Λ 646) (hZ : MZ σ 646) (hE : ∀ σ', LW p l e s m below meth c b k n 1461 ls [] 669 Λ σ') : LW p l e s m below meth c b k n 797 ls [] 669 Λ σ := by
  refine L_al C0 dl_797 rfl (lv_at hl 2 rfl) ?_
  refine L_arg 1 C0 hl dl_798 dl_799 dl_800 dl_801 dl_802 rfl (by decide) ?_
  refine L_arg 2 C0 hl dl_803 dl_804 dl_805 dl_806 dl_807 rfl (by decide) ?_
  refine L_arg 3 C0 hl dl_808 dl_809 dl_810 dl_811 dl_812 rfl (by decide) ?_
  refine L_arg 4 C0 hl dl_813 dl_814 dl_815 dl_816 dl_817 rfl (by decide) ?_
  refine L_callI (t := 0) (d := 10) (As := [(0, (xs 1).toInt), (0, (xs 2).toInt), (0, (xs 3).toInt), (0, (xs 4).toInt)]) (rest := []) C0 hl dl_818 ok_mX11_fact ml_L_79 rfl (by decide) (by decide) hk (by decide) rfl (okl [xs 1, xs 2, xs 3, xs 4]) kX11 hD.1 (kd_fact hD h0 (by decide) fun σ1 f1 => ?_)
  refine L_al C0 dl_821 rfl (lv_at hl 1 rfl) ?_
  refine L_arg 1 C0 hl dl_822 dl_823 dl_824 dl_825 dl_826 rfl (by decide) ?_
  refine L_arg 2 C0 hl dl_827 dl_828 dl_829 dl_830 dl_831 rfl (by decide) ?_
  refine L_arg 3 C0 hl dl_832 dl_833 dl_834 dl_835 dl_836 rfl (by decide) ?_
  refine L_arg 4 C0 hl dl_837 dl_838 dl_839 dl_840 dl_841 rfl (by decide) ?_
  refine L_callI (t := 646) (d := 10) (As := [(0, (xs 1).toInt), (0, (xs 2).toInt), (0, (xs 3).toInt), (0, (xs 4).toInt)]) C0 hl dl_842 ok_mX12_fact ml_L_82 rfl (by decide) (by decide) hk h8I rfl (okl [xs 1, xs 2, xs 3, xs 4]) kX12 hM.1 (km_fact hM (hZ.keep f1) (by decide) fun σ2 => ?_)
  exact L_cmpI C0 dl_845 rfl (hE σ2)
theorem ca_16 {p : Program} {l : Launch} {e : Env} {s : State} {m : MethodId} {below : List Frame} {meth : Method} {c : Code} {b k n : Nat} {xs : Nat → Int32} {ls : Array Slot} {Λ : Lay} {σ : Mem} (C0 : lw_At p s m meth c b 6 xs) (hl : lv_has ls 4 [(3, .int 0), (2, .ref (s.heap.size + 646)), (1, .ref (s.heap.size + 0)), (0, .ref b)]) (hk : k ≤ 600000 ∧ n ≤ 7302250) (hD : DeskL 669 Λ 0) (h0 : Desk0 σ 0) (hM : ModL 669 Λ 646) (hZ : MZ σ 646) (hE : ∀ σ', LW p l e s m below meth c b k n 1461 ls [] 669 Λ σ') : LW p l e s m below meth c b k n 850 ls [] 669 Λ σ := by
  refine L_al C0 dl_850 rfl (lv_at hl 2 rfl) ?_
  refine L_arg 1 C0 hl dl_851 dl_852 dl_853 dl_854 dl_855 rfl (by decide) ?_
  refine L_arg 2 C0 hl dl_856 dl_857 dl_858 dl_859 dl_860 rfl (by decide) ?_
  refine L_arg 3 C0 hl dl_861 dl_862 dl_863 dl_864 dl_865 rfl (by decide) ?_
  refine L_arg 4 C0 hl dl_866 dl_867 dl_868 dl_869 dl_870 rfl (by decide) ?_
  refine L_callI (t := 0) (d := 10) (As := [(0, (xs 1).toInt), (0, (xs 2).toInt), (0, (xs 3).toInt), (0, (xs 4).toInt)]) (rest := []) C0 hl dl_871 ok_mX11_place ml_L_83 rfl (by decide) (by decide) hk (by decide) rfl (okl [xs 1, xs 2, xs 3, xs 4]) kX11 hD.1 (kd_place hD h0 (by decide) fun σ1 f1 => ?_)
  refine L_al C0 dl_874 rfl (lv_at hl 1 rfl) ?_
  refine L_arg 1 C0 hl dl_875 dl_876 dl_877 dl_878 dl_879 rfl (by decide) ?_
  refine L_arg 2 C0 hl dl_880 dl_881 dl_882 dl_883 dl_884 rfl (by decide) ?_
  refine L_arg 3 C0 hl dl_885 dl_886 dl_887 dl_888 dl_889 rfl (by decide) ?_
  refine L_arg 4 C0 hl dl_890 dl_891 dl_892 dl_893 dl_894 rfl (by decide) ?_
  refine L_callI (t := 646) (d := 10) (As := [(0, (xs 1).toInt), (0, (xs 2).toInt), (0, (xs 3).toInt), (0, (xs 4).toInt)]) C0 hl dl_895 ok_mX12_place ml_L_86 rfl (by decide) (by decide) hk h8I rfl (okl [xs 1, xs 2, xs 3, xs 4]) kX12 hM.1 (km_place hM (hZ.keep f1) (by decide) fun σ2 => ?_)
  exact L_cmpI C0 dl_898 rfl (hE σ2)
theorem ca_17 {p : Program} {l : Launch} {e : Env} {s : State} {m : MethodId} {below : List Frame} {meth : Method} {c : Code} {b k n : Nat} {xs : Nat → Int32} {ls : Array Slot} {Λ : Lay} {σ : Mem} (C0 : lw_At p s m meth c b 6 xs) (hl : lv_has ls 4 [(3, .int 0), (2, .ref (s.heap.size + 646)), (1, .ref (s.heap.size + 0)), (0, .ref b)]) (hk : k ≤ 600000 ∧ n ≤ 7302250) (hD : DeskL 669 Λ 0) (h0 : Desk0 σ 0) (hM : ModL 669 Λ 646) (hZ : MZ σ 646) (hE : ∀ σ', LW p l e s m below meth c b k n 1461 ls [] 669 Λ σ') : LW p l e s m below meth c b k n 903 ls [] 669 Λ σ := by
  refine L_al C0 dl_903 rfl (lv_at hl 2 rfl) ?_
  refine L_arg 1 C0 hl dl_904 dl_905 dl_906 dl_907 dl_908 rfl (by decide) ?_
  refine L_callI (t := 0) (d := 10) (As := [(0, (xs 1).toInt)]) (rest := []) C0 hl dl_909 ok_mX11_terms ml_L_87 rfl (by decide) (by decide) hk (by decide) rfl (okl [xs 1]) kX11 hD.1 (kd_terms hD h0 (by decide) fun σ1 f1 => ?_)
  refine L_al C0 dl_912 rfl (lv_at hl 1 rfl) ?_
  refine L_arg 1 C0 hl dl_913 dl_914 dl_915 dl_916 dl_917 rfl (by decide) ?_
  refine L_callI (t := 646) (d := 10) (As := [(0, (xs 1).toInt)]) C0 hl dl_918 ok_mX12_terms ml_L_90 rfl (by decide) (by decide) hk h8I rfl (okl [xs 1]) kX12 hM.1 (km_terms hM (hZ.keep f1) (by decide) fun σ2 => ?_)
  exact L_cmpI C0 dl_921 rfl (hE σ2)
theorem ca_18 {p : Program} {l : Launch} {e : Env} {s : State} {m : MethodId} {below : List Frame} {meth : Method} {c : Code} {b k n : Nat} {xs : Nat → Int32} {ls : Array Slot} {Λ : Lay} {σ : Mem} (C0 : lw_At p s m meth c b 6 xs) (hl : lv_has ls 4 [(3, .int 0), (2, .ref (s.heap.size + 646)), (1, .ref (s.heap.size + 0)), (0, .ref b)]) (hk : k ≤ 600000 ∧ n ≤ 7302250) (hD : DeskL 669 Λ 0) (h0 : Desk0 σ 0) (hM : ModL 669 Λ 646) (hZ : MZ σ 646) (hE : ∀ σ', LW p l e s m below meth c b k n 1461 ls [] 669 Λ σ') : LW p l e s m below meth c b k n 926 ls [] 669 Λ σ := by
  refine L_al C0 dl_926 rfl (lv_at hl 2 rfl) ?_
  refine L_arg 1 C0 hl dl_927 dl_928 dl_929 dl_930 dl_931 rfl (by decide) ?_
  refine L_arg 2 C0 hl dl_932 dl_933 dl_934 dl_935 dl_936 rfl (by decide) ?_
  refine L_arg 3 C0 hl dl_937 dl_938 dl_939 dl_940 dl_941 rfl (by decide) ?_
  refine L_callI (t := 0) (d := 10) (As := [(0, (xs 1).toInt), (0, (xs 2).toInt), (0, (xs 3).toInt)]) (rest := []) C0 hl dl_942 ok_mX11_term ml_L_91 rfl (by decide) (by decide) hk (by decide) rfl (okl [xs 1, xs 2, xs 3]) kX11 hD.1 (kd_term hD h0 (by decide) fun σ1 f1 => ?_)
  refine L_al C0 dl_945 rfl (lv_at hl 1 rfl) ?_
  refine L_arg 1 C0 hl dl_946 dl_947 dl_948 dl_949 dl_950 rfl (by decide) ?_
  refine L_arg 2 C0 hl dl_951 dl_952 dl_953 dl_954 dl_955 rfl (by decide) ?_
  refine L_arg 3 C0 hl dl_956 dl_957 dl_958 dl_959 dl_960 rfl (by decide) ?_
  refine L_callI (t := 646) (d := 10) (As := [(0, (xs 1).toInt), (0, (xs 2).toInt), (0, (xs 3).toInt)]) C0 hl dl_961 ok_mX12_term_ ml_L_94 rfl (by decide) (by decide) hk h8I rfl (okl [xs 1, xs 2, xs 3]) kX12 hM.1 (km_term hM (hZ.keep f1) (by decide) fun σ2 => ?_)
  exact L_cmpI C0 dl_964 rfl (hE σ2)
theorem ca_19 {p : Program} {l : Launch} {e : Env} {s : State} {m : MethodId} {below : List Frame} {meth : Method} {c : Code} {b k n : Nat} {xs : Nat → Int32} {ls : Array Slot} {Λ : Lay} {σ : Mem} (C0 : lw_At p s m meth c b 6 xs) (hl : lv_has ls 4 [(3, .int 0), (2, .ref (s.heap.size + 646)), (1, .ref (s.heap.size + 0)), (0, .ref b)]) (hk : k ≤ 600000 ∧ n ≤ 7302250) (hD : DeskL 669 Λ 0) (h0 : Desk0 σ 0) (hM : ModL 669 Λ 646) (hZ : MZ σ 646) (hE : ∀ σ', LW p l e s m below meth c b k n 1461 ls [] 669 Λ σ') : LW p l e s m below meth c b k n 969 ls [] 669 Λ σ := by
  refine L_al C0 dl_969 rfl (lv_at hl 2 rfl) ?_
  refine L_arg 1 C0 hl dl_970 dl_971 dl_972 dl_973 dl_974 rfl (by decide) ?_
  refine L_arg 2 C0 hl dl_975 dl_976 dl_977 dl_978 dl_979 rfl (by decide) ?_
  refine L_callI (t := 0) (d := 10) (As := [(0, (xs 1).toInt), (0, (xs 2).toInt)]) (rest := []) C0 hl dl_980 ok_mX11_degree ml_L_95 rfl (by decide) (by decide) hk (by decide) rfl (okl [xs 1, xs 2]) kX11 hD.1 (kd_degree hD h0 (by decide) fun σ1 f1 => ?_)
  refine L_al C0 dl_983 rfl (lv_at hl 1 rfl) ?_
  refine L_arg 1 C0 hl dl_984 dl_985 dl_986 dl_987 dl_988 rfl (by decide) ?_
  refine L_arg 2 C0 hl dl_989 dl_990 dl_991 dl_992 dl_993 rfl (by decide) ?_
  refine L_callI (t := 646) (d := 10) (As := [(0, (xs 1).toInt), (0, (xs 2).toInt)]) C0 hl dl_994 ok_mX12_degree ml_L_98 rfl (by decide) (by decide) hk h8I rfl (okl [xs 1, xs 2]) kX12 hM.1 (km_degree hM (hZ.keep f1) (by decide) fun σ2 => ?_)
  exact L_cmpI C0 dl_997 rfl (hE σ2)
theorem ca_20 {p : Program} {l : Launch} {e : Env} {s : State} {m : MethodId} {below : List Frame} {meth : Method} {c : Code} {b k n : Nat} {xs : Nat → Int32} {ls : Array Slot} {Λ : Lay} {σ : Mem} (C0 : lw_At p s m meth c b 6 xs) (hl : lv_has ls 4 [(3, .int 0), (2, .ref (s.heap.size + 646)), (1, .ref (s.heap.size + 0)), (0, .ref b)]) (hk : k ≤ 600000 ∧ n ≤ 7302250) (hD : DeskL 669 Λ 0) (h0 : Desk0 σ 0) (hM : ModL 669 Λ 646) (hZ : MZ σ 646) (hE : ∀ σ', LW p l e s m below meth c b k n 1461 ls [] 669 Λ σ') : LW p l e s m below meth c b k n 1002 ls [] 669 Λ σ := by
  refine L_al C0 dl_1002 rfl (lv_at hl 2 rfl) ?_
  refine L_arg 1 C0 hl dl_1003 dl_1004 dl_1005 dl_1006 dl_1007 rfl (by decide) ?_
  refine L_callI (t := 0) (d := 10) (As := [(0, (xs 1).toInt)]) (rest := []) C0 hl dl_1008 ok_mX11_steps ml_L_99 rfl (by decide) (by decide) hk (by decide) rfl (okl [xs 1]) kX11 hD.1 (kd_steps hD h0 (by decide) fun σ1 f1 => ?_)
  refine L_al C0 dl_1011 rfl (lv_at hl 1 rfl) ?_
  refine L_arg 1 C0 hl dl_1012 dl_1013 dl_1014 dl_1015 dl_1016 rfl (by decide) ?_
  refine L_callI (t := 646) (d := 10) (As := [(0, (xs 1).toInt)]) C0 hl dl_1017 ok_mX12_steps_ ml_L_102 rfl (by decide) (by decide) hk h8I rfl (okl [xs 1]) kX12 hM.1 (km_steps hM (hZ.keep f1) (by decide) fun σ2 => ?_)
  exact L_cmpI C0 dl_1020 rfl (hE σ2)
theorem ca_21 {p : Program} {l : Launch} {e : Env} {s : State} {m : MethodId} {below : List Frame} {meth : Method} {c : Code} {b k n : Nat} {xs : Nat → Int32} {ls : Array Slot} {Λ : Lay} {σ : Mem} (C0 : lw_At p s m meth c b 6 xs) (hl : lv_has ls 4 [(3, .int 0), (2, .ref (s.heap.size + 646)), (1, .ref (s.heap.size + 0)), (0, .ref b)]) (hk : k ≤ 600000 ∧ n ≤ 7302250) (hD : DeskL 669 Λ 0) (h0 : Desk0 σ 0) (hM : ModL 669 Λ 646) (hZ : MZ σ 646) (hE : ∀ σ', LW p l e s m below meth c b k n 1461 ls [] 669 Λ σ') : LW p l e s m below meth c b k n 1025 ls [] 669 Λ σ := by
  refine L_al C0 dl_1025 rfl (lv_at hl 2 rfl) ?_
  refine L_arg 1 C0 hl dl_1026 dl_1027 dl_1028 dl_1029 dl_1030 rfl (by decide) ?_
  refine L_callI (t := 0) (d := 10) (As := [(0, (xs 1).toInt)]) (rest := []) C0 hl dl_1031 ok_mX11_left ml_L_103 rfl (by decide) (by decide) hk (by decide) rfl (okl [xs 1]) kX11 hD.1 (kd_left hD h0 (by decide) fun σ1 f1 => ?_)
  refine L_al C0 dl_1034 rfl (lv_at hl 1 rfl) ?_
  refine L_arg 1 C0 hl dl_1035 dl_1036 dl_1037 dl_1038 dl_1039 rfl (by decide) ?_
  refine L_callI (t := 646) (d := 10) (As := [(0, (xs 1).toInt)]) C0 hl dl_1040 ok_mX12_left ml_L_106 rfl (by decide) (by decide) hk h8I rfl (okl [xs 1]) kX12 hM.1 (km_left hM (hZ.keep f1) (by decide) fun σ2 => ?_)
  exact L_cmpI C0 dl_1043 rfl (hE σ2)
theorem ca_22 {p : Program} {l : Launch} {e : Env} {s : State} {m : MethodId} {below : List Frame} {meth : Method} {c : Code} {b k n : Nat} {xs : Nat → Int32} {ls : Array Slot} {Λ : Lay} {σ : Mem} (C0 : lw_At p s m meth c b 6 xs) (hl : lv_has ls 4 [(3, .int 0), (2, .ref (s.heap.size + 646)), (1, .ref (s.heap.size + 0)), (0, .ref b)]) (hk : k ≤ 600000 ∧ n ≤ 7302250) (hD : DeskL 669 Λ 0) (h0 : Desk0 σ 0) (hM : ModL 669 Λ 646) (hZ : MZ σ 646) (hE : ∀ σ', LW p l e s m below meth c b k n 1461 ls [] 669 Λ σ') : LW p l e s m below meth c b k n 1048 ls [] 669 Λ σ := by
  refine L_al C0 dl_1048 rfl (lv_at hl 2 rfl) ?_
  refine L_arg 1 C0 hl dl_1049 dl_1050 dl_1051 dl_1052 dl_1053 rfl (by decide) ?_
  refine L_arg 2 C0 hl dl_1054 dl_1055 dl_1056 dl_1057 dl_1058 rfl (by decide) ?_
  refine L_callI (t := 0) (d := 10) (As := [(0, (xs 1).toInt), (0, (xs 2).toInt)]) (rest := []) C0 hl dl_1059 ok_mX11_equal ml_L_107 rfl (by decide) (by decide) hk (by decide) rfl (okl [xs 1, xs 2]) kX11 hD.1 (kd_equal hD h0 (by decide) fun σ1 f1 => ?_)
  refine L_al C0 dl_1062 rfl (lv_at hl 1 rfl) ?_
  refine L_arg 1 C0 hl dl_1063 dl_1064 dl_1065 dl_1066 dl_1067 rfl (by decide) ?_
  refine L_arg 2 C0 hl dl_1068 dl_1069 dl_1070 dl_1071 dl_1072 rfl (by decide) ?_
  refine L_callI (t := 646) (d := 10) (As := [(0, (xs 1).toInt), (0, (xs 2).toInt)]) C0 hl dl_1073 ok_mX12_equal ml_L_110 rfl (by decide) (by decide) hk h8I rfl (okl [xs 1, xs 2]) kX12 hM.1 (km_equal hM (hZ.keep f1) (by decide) fun σ2 => ?_)
  exact L_cmpI C0 dl_1076 rfl (hE σ2)
theorem ca_23 {p : Program} {l : Launch} {e : Env} {s : State} {m : MethodId} {below : List Frame} {meth : Method} {c : Code} {b k n : Nat} {xs : Nat → Int32} {ls : Array Slot} {Λ : Lay} {σ : Mem} (C0 : lw_At p s m meth c b 6 xs) (hl : lv_has ls 4 [(3, .int 0), (2, .ref (s.heap.size + 646)), (1, .ref (s.heap.size + 0)), (0, .ref b)]) (hk : k ≤ 600000 ∧ n ≤ 7302250) (hD : DeskL 669 Λ 0) (h0 : Desk0 σ 0) (hM : ModL 669 Λ 646) (hZ : MZ σ 646) (hE : ∀ σ', LW p l e s m below meth c b k n 1461 ls [] 669 Λ σ') : LW p l e s m below meth c b k n 1081 ls [] 669 Λ σ := by
  refine L_al C0 dl_1081 rfl (lv_at hl 2 rfl) ?_
  refine L_arg 1 C0 hl dl_1082 dl_1083 dl_1084 dl_1085 dl_1086 rfl (by decide) ?_
  refine L_callI (t := 0) (d := 10) (As := [(0, (xs 1).toInt)]) (rest := []) C0 hl dl_1087 ok_mX11_forms ml_L_111 rfl (by decide) (by decide) hk (by decide) rfl (okl [xs 1]) kX11 hD.1 (kd_forms hD h0 (by decide) fun σ1 f1 => ?_)
  refine L_al C0 dl_1090 rfl (lv_at hl 1 rfl) ?_
  refine L_arg 1 C0 hl dl_1091 dl_1092 dl_1093 dl_1094 dl_1095 rfl (by decide) ?_
  refine L_callI (t := 646) (d := 10) (As := [(0, (xs 1).toInt)]) C0 hl dl_1096 ok_mX12_forms ml_L_114 rfl (by decide) (by decide) hk h8I rfl (okl [xs 1]) kX12 hM.1 (km_forms hM (hZ.keep f1) (by decide) fun σ2 => ?_)
  exact L_cmpI C0 dl_1099 rfl (hE σ2)
theorem ca_24 {p : Program} {l : Launch} {e : Env} {s : State} {m : MethodId} {below : List Frame} {meth : Method} {c : Code} {b k n : Nat} {xs : Nat → Int32} {ls : Array Slot} {Λ : Lay} {σ : Mem} (C0 : lw_At p s m meth c b 6 xs) (hl : lv_has ls 4 [(3, .int 0), (2, .ref (s.heap.size + 646)), (1, .ref (s.heap.size + 0)), (0, .ref b)]) (hk : k ≤ 600000 ∧ n ≤ 7302250) (hD : DeskL 669 Λ 0) (h0 : Desk0 σ 0) (hM : ModL 669 Λ 646) (hZ : MZ σ 646) (hE : ∀ σ', LW p l e s m below meth c b k n 1461 ls [] 669 Λ σ') : LW p l e s m below meth c b k n 1104 ls [] 669 Λ σ := by
  refine L_al C0 dl_1104 rfl (lv_at hl 2 rfl) ?_
  refine L_arg 1 C0 hl dl_1105 dl_1106 dl_1107 dl_1108 dl_1109 rfl (by decide) ?_
  refine L_arg 2 C0 hl dl_1110 dl_1111 dl_1112 dl_1113 dl_1114 rfl (by decide) ?_
  refine L_arg 3 C0 hl dl_1115 dl_1116 dl_1117 dl_1118 dl_1119 rfl (by decide) ?_
  refine L_callI (t := 0) (d := 10) (As := [(0, (xs 1).toInt), (0, (xs 2).toInt), (0, (xs 3).toInt)]) (rest := []) C0 hl dl_1120 ok_mX11_form ml_L_115 rfl (by decide) (by decide) hk (by decide) rfl (okl [xs 1, xs 2, xs 3]) kX11 hD.1 (kd_form hD h0 (by decide) fun σ1 f1 => ?_)
  refine L_al C0 dl_1123 rfl (lv_at hl 1 rfl) ?_
  refine L_arg 1 C0 hl dl_1124 dl_1125 dl_1126 dl_1127 dl_1128 rfl (by decide) ?_
  refine L_arg 2 C0 hl dl_1129 dl_1130 dl_1131 dl_1132 dl_1133 rfl (by decide) ?_
  refine L_arg 3 C0 hl dl_1134 dl_1135 dl_1136 dl_1137 dl_1138 rfl (by decide) ?_
  refine L_callI (t := 646) (d := 10) (As := [(0, (xs 1).toInt), (0, (xs 2).toInt), (0, (xs 3).toInt)]) C0 hl dl_1139 ok_mX12_form ml_L_118 rfl (by decide) (by decide) hk h8I rfl (okl [xs 1, xs 2, xs 3]) kX12 hM.1 (km_form hM (hZ.keep f1) (by decide) fun σ2 => ?_)
  exact L_cmpI C0 dl_1142 rfl (hE σ2)
theorem ca_25 {p : Program} {l : Launch} {e : Env} {s : State} {m : MethodId} {below : List Frame} {meth : Method} {c : Code} {b k n : Nat} {xs : Nat → Int32} {ls : Array Slot} {Λ : Lay} {σ : Mem} (C0 : lw_At p s m meth c b 6 xs) (hl : lv_has ls 4 [(3, .int 0), (2, .ref (s.heap.size + 646)), (1, .ref (s.heap.size + 0)), (0, .ref b)]) (hk : k ≤ 600000 ∧ n ≤ 7302250) (hD : DeskL 669 Λ 0) (h0 : Desk0 σ 0) (hM : ModL 669 Λ 646) (hZ : MZ σ 646) (hE : ∀ σ', LW p l e s m below meth c b k n 1461 ls [] 669 Λ σ') : LW p l e s m below meth c b k n 1147 ls [] 669 Λ σ := by
  refine L_al C0 dl_1147 rfl (lv_at hl 2 rfl) ?_
  refine L_arg 1 C0 hl dl_1148 dl_1149 dl_1150 dl_1151 dl_1152 rfl (by decide) ?_
  refine L_callI (t := 0) (d := 10) (As := [(0, (xs 1).toInt)]) (rest := []) C0 hl dl_1153 ok_mX11_rank ml_L_119 rfl (by decide) (by decide) hk (by decide) rfl (okl [xs 1]) kX11 hD.1 (kd_rank hD h0 (by decide) fun σ1 f1 => ?_)
  refine L_al C0 dl_1156 rfl (lv_at hl 1 rfl) ?_
  refine L_arg 1 C0 hl dl_1157 dl_1158 dl_1159 dl_1160 dl_1161 rfl (by decide) ?_
  refine L_callI (t := 646) (d := 10) (As := [(0, (xs 1).toInt)]) C0 hl dl_1162 ok_mX12_rank ml_L_122 rfl (by decide) (by decide) hk h8I rfl (okl [xs 1]) kX12 hM.1 (km_rank hM (hZ.keep f1) (by decide) fun σ2 => ?_)
  exact L_cmpI C0 dl_1165 rfl (hE σ2)
theorem ca_26 {p : Program} {l : Launch} {e : Env} {s : State} {m : MethodId} {below : List Frame} {meth : Method} {c : Code} {b k n : Nat} {xs : Nat → Int32} {ls : Array Slot} {Λ : Lay} {σ : Mem} (C0 : lw_At p s m meth c b 6 xs) (hl : lv_has ls 4 [(3, .int 0), (2, .ref (s.heap.size + 646)), (1, .ref (s.heap.size + 0)), (0, .ref b)]) (hk : k ≤ 600000 ∧ n ≤ 7302250) (hD : DeskL 669 Λ 0) (h0 : Desk0 σ 0) (hM : ModL 669 Λ 646) (hZ : MZ σ 646) (hE : ∀ σ', LW p l e s m below meth c b k n 1461 ls [] 669 Λ σ') : LW p l e s m below meth c b k n 1170 ls [] 669 Λ σ := by
  refine L_al C0 dl_1170 rfl (lv_at hl 2 rfl) ?_
  refine L_arg 1 C0 hl dl_1171 dl_1172 dl_1173 dl_1174 dl_1175 rfl (by decide) ?_
  refine L_arg 2 C0 hl dl_1176 dl_1177 dl_1178 dl_1179 dl_1180 rfl (by decide) ?_
  refine L_callI (t := 0) (d := 10) (As := [(0, (xs 1).toInt), (0, (xs 2).toInt)]) (rest := []) C0 hl dl_1181 ok_mX11_factor ml_L_123 rfl (by decide) (by decide) hk (by decide) rfl (okl [xs 1, xs 2]) kX11 hD.1 (kd_factor hD h0 (by decide) fun σ1 f1 => ?_)
  refine L_al C0 dl_1184 rfl (lv_at hl 1 rfl) ?_
  refine L_arg 1 C0 hl dl_1185 dl_1186 dl_1187 dl_1188 dl_1189 rfl (by decide) ?_
  refine L_arg 2 C0 hl dl_1190 dl_1191 dl_1192 dl_1193 dl_1194 rfl (by decide) ?_
  refine L_callI (t := 646) (d := 10) (As := [(0, (xs 1).toInt), (0, (xs 2).toInt)]) C0 hl dl_1195 ok_mX12_factor ml_L_126 rfl (by decide) (by decide) hk h8I rfl (okl [xs 1, xs 2]) kX12 hM.1 (km_factor hM (hZ.keep f1) (by decide) fun σ2 => ?_)
  exact L_cmpI C0 dl_1198 rfl (hE σ2)
theorem ca_27 {p : Program} {l : Launch} {e : Env} {s : State} {m : MethodId} {below : List Frame} {meth : Method} {c : Code} {b k n : Nat} {xs : Nat → Int32} {ls : Array Slot} {Λ : Lay} {σ : Mem} (C0 : lw_At p s m meth c b 6 xs) (hl : lv_has ls 4 [(3, .int 0), (2, .ref (s.heap.size + 646)), (1, .ref (s.heap.size + 0)), (0, .ref b)]) (hk : k ≤ 600000 ∧ n ≤ 7302250) (hD : DeskL 669 Λ 0) (h0 : Desk0 σ 0) (hM : ModL 669 Λ 646) (hZ : MZ σ 646) (hE : ∀ σ', LW p l e s m below meth c b k n 1461 ls [] 669 Λ σ') : LW p l e s m below meth c b k n 1203 ls [] 669 Λ σ := by
  refine L_al C0 dl_1203 rfl (lv_at hl 2 rfl) ?_
  refine L_arg 1 C0 hl dl_1204 dl_1205 dl_1206 dl_1207 dl_1208 rfl (by decide) ?_
  refine L_callI (t := 0) (d := 10) (As := [(0, (xs 1).toInt)]) (rest := []) C0 hl dl_1209 ok_mX11_isFinal ml_L_127 rfl (by decide) (by decide) hk (by decide) rfl (okl [xs 1]) kX11 hD.1 (kd_isFinal hD h0 (by decide) fun σ1 f1 => ?_)
  refine L_al C0 dl_1212 rfl (lv_at hl 1 rfl) ?_
  refine L_arg 1 C0 hl dl_1213 dl_1214 dl_1215 dl_1216 dl_1217 rfl (by decide) ?_
  refine L_callI (t := 646) (d := 10) (As := [(0, (xs 1).toInt)]) C0 hl dl_1218 ok_mX12_isFinal ml_L_130 rfl (by decide) (by decide) hk h8I rfl (okl [xs 1]) kX12 hM.1 (km_isFinal hM (hZ.keep f1) (by decide) fun σ2 => ?_)
  exact L_cmpI C0 dl_1221 rfl (hE σ2)
theorem ca_28 {p : Program} {l : Launch} {e : Env} {s : State} {m : MethodId} {below : List Frame} {meth : Method} {c : Code} {b k n : Nat} {xs : Nat → Int32} {ls : Array Slot} {Λ : Lay} {σ : Mem} (C0 : lw_At p s m meth c b 6 xs) (hl : lv_has ls 4 [(3, .int 0), (2, .ref (s.heap.size + 646)), (1, .ref (s.heap.size + 0)), (0, .ref b)]) (hk : k ≤ 600000 ∧ n ≤ 7302250) (hD : DeskL 669 Λ 0) (h0 : Desk0 σ 0) (hM : ModL 669 Λ 646) (hZ : MZ σ 646) (hE : ∀ σ', LW p l e s m below meth c b k n 1461 ls [] 669 Λ σ') : LW p l e s m below meth c b k n 1226 ls [] 669 Λ σ := by
  refine L_al C0 dl_1226 rfl (lv_at hl 2 rfl) ?_
  refine L_arg 1 C0 hl dl_1227 dl_1228 dl_1229 dl_1230 dl_1231 rfl (by decide) ?_
  refine L_arg 2 C0 hl dl_1232 dl_1233 dl_1234 dl_1235 dl_1236 rfl (by decide) ?_
  refine L_arg 3 C0 hl dl_1237 dl_1238 dl_1239 dl_1240 dl_1241 rfl (by decide) ?_
  refine L_callI (t := 0) (d := 10) (As := [(0, (xs 1).toInt), (0, (xs 2).toInt), (0, (xs 3).toInt)]) (rest := []) C0 hl dl_1242 ok_mX11_known ml_L_131 rfl (by decide) (by decide) hk (by decide) rfl (okl [xs 1, xs 2, xs 3]) kX11 hD.1 (kd_known hD h0 (by decide) fun σ1 f1 => ?_)
  refine L_al C0 dl_1245 rfl (lv_at hl 1 rfl) ?_
  refine L_arg 1 C0 hl dl_1246 dl_1247 dl_1248 dl_1249 dl_1250 rfl (by decide) ?_
  refine L_arg 2 C0 hl dl_1251 dl_1252 dl_1253 dl_1254 dl_1255 rfl (by decide) ?_
  refine L_arg 3 C0 hl dl_1256 dl_1257 dl_1258 dl_1259 dl_1260 rfl (by decide) ?_
  refine L_callI (t := 646) (d := 10) (As := [(0, (xs 1).toInt), (0, (xs 2).toInt), (0, (xs 3).toInt)]) C0 hl dl_1261 ok_mX12_known ml_L_134 rfl (by decide) (by decide) hk h8I rfl (okl [xs 1, xs 2, xs 3]) kX12 hM.1 (km_known hM (hZ.keep f1) (by decide) fun σ2 => ?_)
  exact L_cmpI C0 dl_1264 rfl (hE σ2)
theorem ca_29 {p : Program} {l : Launch} {e : Env} {s : State} {m : MethodId} {below : List Frame} {meth : Method} {c : Code} {b k n : Nat} {xs : Nat → Int32} {ls : Array Slot} {Λ : Lay} {σ : Mem} (C0 : lw_At p s m meth c b 6 xs) (hl : lv_has ls 4 [(3, .int 0), (2, .ref (s.heap.size + 646)), (1, .ref (s.heap.size + 0)), (0, .ref b)]) (hk : k ≤ 600000 ∧ n ≤ 7302250) (hD : DeskL 669 Λ 0) (h0 : Desk0 σ 0) (hM : ModL 669 Λ 646) (hZ : MZ σ 646) (hE : ∀ σ', LW p l e s m below meth c b k n 1461 ls [] 669 Λ σ') : LW p l e s m below meth c b k n 1269 ls [] 669 Λ σ := by
  refine L_al C0 dl_1269 rfl (lv_at hl 2 rfl) ?_
  refine L_arg 1 C0 hl dl_1270 dl_1271 dl_1272 dl_1273 dl_1274 rfl (by decide) ?_
  refine L_arg 2 C0 hl dl_1275 dl_1276 dl_1277 dl_1278 dl_1279 rfl (by decide) ?_
  refine L_callI (t := 0) (d := 10) (As := [(0, (xs 1).toInt), (0, (xs 2).toInt)]) (rest := []) C0 hl dl_1280 ok_mX11_at ml_L_135 rfl (by decide) (by decide) hk (by decide) rfl (okl [xs 1, xs 2]) kX11 hD.1 (kd_at hD h0 (by decide) fun σ1 f1 => ?_)
  refine L_al C0 dl_1283 rfl (lv_at hl 1 rfl) ?_
  refine L_arg 1 C0 hl dl_1284 dl_1285 dl_1286 dl_1287 dl_1288 rfl (by decide) ?_
  refine L_arg 2 C0 hl dl_1289 dl_1290 dl_1291 dl_1292 dl_1293 rfl (by decide) ?_
  refine L_callI (t := 646) (d := 10) (As := [(0, (xs 1).toInt), (0, (xs 2).toInt)]) C0 hl dl_1294 ok_mX12_at ml_L_138 rfl (by decide) (by decide) hk h8I rfl (okl [xs 1, xs 2]) kX12 hM.1 (km_at hM (hZ.keep f1) (by decide) fun σ2 => ?_)
  exact L_cmpI C0 dl_1297 rfl (hE σ2)
theorem ca_30 {p : Program} {l : Launch} {e : Env} {s : State} {m : MethodId} {below : List Frame} {meth : Method} {c : Code} {b k n : Nat} {xs : Nat → Int32} {ls : Array Slot} {Λ : Lay} {σ : Mem} (C0 : lw_At p s m meth c b 6 xs) (hl : lv_has ls 4 [(3, .int 0), (2, .ref (s.heap.size + 646)), (1, .ref (s.heap.size + 0)), (0, .ref b)]) (hk : k ≤ 600000 ∧ n ≤ 7302250) (hD : DeskL 669 Λ 0) (h0 : Desk0 σ 0) (hM : ModL 669 Λ 646) (hZ : MZ σ 646) (hE : ∀ σ', LW p l e s m below meth c b k n 1461 ls [] 669 Λ σ') : LW p l e s m below meth c b k n 1302 ls [] 669 Λ σ := by
  refine L_al C0 dl_1302 rfl (lv_at hl 2 rfl) ?_
  refine L_arg 1 C0 hl dl_1303 dl_1304 dl_1305 dl_1306 dl_1307 rfl (by decide) ?_
  refine L_arg 2 C0 hl dl_1308 dl_1309 dl_1310 dl_1311 dl_1312 rfl (by decide) ?_
  refine L_arg 3 C0 hl dl_1313 dl_1314 dl_1315 dl_1316 dl_1317 rfl (by decide) ?_
  refine L_callI (t := 0) (d := 10) (As := [(0, (xs 1).toInt), (0, (xs 2).toInt), (0, (xs 3).toInt)]) (rest := []) C0 hl dl_1318 ok_mX11_worth ml_L_139 rfl (by decide) (by decide) hk (by decide) rfl (okl [xs 1, xs 2, xs 3]) kX11 hD.1 (kd_worth hD h0 (by decide) fun σ1 f1 => ?_)
  refine L_al C0 dl_1321 rfl (lv_at hl 1 rfl) ?_
  refine L_arg 1 C0 hl dl_1322 dl_1323 dl_1324 dl_1325 dl_1326 rfl (by decide) ?_
  refine L_arg 2 C0 hl dl_1327 dl_1328 dl_1329 dl_1330 dl_1331 rfl (by decide) ?_
  refine L_arg 3 C0 hl dl_1332 dl_1333 dl_1334 dl_1335 dl_1336 rfl (by decide) ?_
  refine L_callI (t := 646) (d := 10) (As := [(0, (xs 1).toInt), (0, (xs 2).toInt), (0, (xs 3).toInt)]) C0 hl dl_1337 ok_mX12_worth ml_L_142 rfl (by decide) (by decide) hk h8I rfl (okl [xs 1, xs 2, xs 3]) kX12 hM.1 (km_worth hM (hZ.keep f1) (by decide) fun σ2 => ?_)
  exact L_cmpI C0 dl_1340 rfl (hE σ2)
theorem ca_31 {p : Program} {l : Launch} {e : Env} {s : State} {m : MethodId} {below : List Frame} {meth : Method} {c : Code} {b k n : Nat} {xs : Nat → Int32} {ls : Array Slot} {Λ : Lay} {σ : Mem} (C0 : lw_At p s m meth c b 6 xs) (hl : lv_has ls 4 [(3, .int 0), (2, .ref (s.heap.size + 646)), (1, .ref (s.heap.size + 0)), (0, .ref b)]) (hk : k ≤ 600000 ∧ n ≤ 7302250) (hD : DeskL 669 Λ 0) (h0 : Desk0 σ 0) (hM : ModL 669 Λ 646) (hZ : MZ σ 646) (hE : ∀ σ', LW p l e s m below meth c b k n 1461 ls [] 669 Λ σ') : LW p l e s m below meth c b k n 1345 ls [] 669 Λ σ := by
  refine L_al C0 dl_1345 rfl (lv_at hl 2 rfl) ?_
  refine L_arg 1 C0 hl dl_1346 dl_1347 dl_1348 dl_1349 dl_1350 rfl (by decide) ?_
  refine L_callL (t := 0) (d := 10) (As := [(0, (xs 1).toInt)]) (rest := []) C0 hl dl_1351 ok_mX11_value ml_L_143 rfl (by decide) (by decide) hk (by decide) rfl (okl [xs 1]) kX11 hD.1 (kd_value hD h0 (by decide) fun σ1 f1 => ?_)
  refine L_al C0 dl_1354 rfl (lv_at hl 1 rfl) ?_
  refine L_arg 1 C0 hl dl_1355 dl_1356 dl_1357 dl_1358 dl_1359 rfl (by decide) ?_
  refine L_callL (t := 646) (d := 10) (As := [(0, (xs 1).toInt)]) C0 hl dl_1360 ok_mX12_value ml_L_147 rfl (by decide) (by decide) hk h8L rfl (okl [xs 1]) kX12 hM.1 (km_value hM (hZ.keep f1) (by decide) fun σ2 => ?_)
  exact L_cmpL C0 dl_1363 dl_1364 rfl (hE σ2)
theorem ca_32 {p : Program} {l : Launch} {e : Env} {s : State} {m : MethodId} {below : List Frame} {meth : Method} {c : Code} {b k n : Nat} {xs : Nat → Int32} {ls : Array Slot} {Λ : Lay} {σ : Mem} (C0 : lw_At p s m meth c b 6 xs) (hl : lv_has ls 4 [(3, .int 0), (2, .ref (s.heap.size + 646)), (1, .ref (s.heap.size + 0)), (0, .ref b)]) (hk : k ≤ 600000 ∧ n ≤ 7302250) (hD : DeskL 669 Λ 0) (h0 : Desk0 σ 0) (hM : ModL 669 Λ 646) (hZ : MZ σ 646) (hE : ∀ σ', LW p l e s m below meth c b k n 1461 ls [] 669 Λ σ') : LW p l e s m below meth c b k n 1369 ls [] 669 Λ σ := by
  refine L_al C0 dl_1369 rfl (lv_at hl 2 rfl) ?_
  refine L_arg 1 C0 hl dl_1370 dl_1371 dl_1372 dl_1373 dl_1374 rfl (by decide) ?_
  refine L_callI (t := 0) (d := 10) (As := [(0, (xs 1).toInt)]) (rest := []) C0 hl dl_1375 ok_mX11_undo ml_L_148 rfl (by decide) (by decide) hk (by decide) rfl (okl [xs 1]) kX11 hD.1 (kd_undo hD h0 (by decide) fun σ1 f1 => ?_)
  refine L_al C0 dl_1378 rfl (lv_at hl 1 rfl) ?_
  refine L_arg 1 C0 hl dl_1379 dl_1380 dl_1381 dl_1382 dl_1383 rfl (by decide) ?_
  refine L_callI (t := 646) (d := 10) (As := [(0, (xs 1).toInt)]) C0 hl dl_1384 ok_mX12_undo ml_L_151 rfl (by decide) (by decide) hk h8I rfl (okl [xs 1]) kX12 hM.1 (km_undo hM (hZ.keep f1) (by decide) fun σ2 => ?_)
  exact L_cmpI C0 dl_1387 rfl (hE σ2)
theorem ca_33 {p : Program} {l : Launch} {e : Env} {s : State} {m : MethodId} {below : List Frame} {meth : Method} {c : Code} {b k n : Nat} {xs : Nat → Int32} {ls : Array Slot} {Λ : Lay} {σ : Mem} (C0 : lw_At p s m meth c b 6 xs) (hl : lv_has ls 4 [(3, .int 0), (2, .ref (s.heap.size + 646)), (1, .ref (s.heap.size + 0)), (0, .ref b)]) (hk : k ≤ 600000 ∧ n ≤ 7302250) (hD : DeskL 669 Λ 0) (h0 : Desk0 σ 0) (hM : ModL 669 Λ 646) (hZ : MZ σ 646) (hE : ∀ σ', LW p l e s m below meth c b k n 1461 ls [] 669 Λ σ') : LW p l e s m below meth c b k n 1392 ls [] 669 Λ σ := by
  refine L_al C0 dl_1392 rfl (lv_at hl 2 rfl) ?_
  refine L_arg 1 C0 hl dl_1393 dl_1394 dl_1395 dl_1396 dl_1397 rfl (by decide) ?_
  refine L_callI (t := 0) (d := 10) (As := [(0, (xs 1).toInt)]) (rest := []) C0 hl dl_1398 ok_mX11_image ml_L_152 rfl (by decide) (by decide) hk (by decide) rfl (okl [xs 1]) kX11 hD.1 (kd_image hD h0 (by decide) fun σ1 f1 => ?_)
  refine L_al C0 dl_1401 rfl (lv_at hl 1 rfl) ?_
  refine L_arg 1 C0 hl dl_1402 dl_1403 dl_1404 dl_1405 dl_1406 rfl (by decide) ?_
  refine L_callI (t := 646) (d := 10) (As := [(0, (xs 1).toInt)]) C0 hl dl_1407 ok_mX12_image ml_L_155 rfl (by decide) (by decide) hk h8I rfl (okl [xs 1]) kX12 hM.1 (km_image hM (by decide) fun σ2 => ?_)
  exact L_cmpI C0 dl_1410 rfl (hE σ2)
theorem ca_34 {p : Program} {l : Launch} {e : Env} {s : State} {m : MethodId} {below : List Frame} {meth : Method} {c : Code} {b k n : Nat} {xs : Nat → Int32} {ls : Array Slot} {Λ : Lay} {σ : Mem} (C0 : lw_At p s m meth c b 6 xs) (hl : lv_has ls 4 [(3, .int 0), (2, .ref (s.heap.size + 646)), (1, .ref (s.heap.size + 0)), (0, .ref b)]) (hk : k ≤ 600000 ∧ n ≤ 7302250) (hD : DeskL 669 Λ 0) (h0 : Desk0 σ 0) (hM : ModL 669 Λ 646) (hZ : MZ σ 646) (hE : ∀ σ', LW p l e s m below meth c b k n 1461 ls [] 669 Λ σ') : LW p l e s m below meth c b k n 1415 ls [] 669 Λ σ := by
  refine L_al C0 dl_1415 rfl (lv_at hl 2 rfl) ?_
  refine L_arg 1 C0 hl dl_1416 dl_1417 dl_1418 dl_1419 dl_1420 rfl (by decide) ?_
  refine L_callI (t := 0) (d := 10) (As := [(0, (xs 1).toInt)]) (rest := []) C0 hl dl_1421 ok_mX11_restore ml_L_156 rfl (by decide) (by decide) hk (by decide) rfl (okl [xs 1]) kX11 hD.1 (kd_restore hD h0 (by decide) fun σ1 f1 => ?_)
  refine L_al C0 dl_1424 rfl (lv_at hl 1 rfl) ?_
  refine L_arg 1 C0 hl dl_1425 dl_1426 dl_1427 dl_1428 dl_1429 rfl (by decide) ?_
  refine L_callI (t := 646) (d := 10) (As := [(0, (xs 1).toInt)]) C0 hl dl_1430 ok_mX12_restore ml_L_159 rfl (by decide) (by decide) hk h8I rfl (okl [xs 1]) kX12 hM.1 (km_restore hM (hZ.keep f1) (by decide) fun σ2 => ?_)
  exact L_cmpI C0 dl_1433 rfl (hE σ2)
theorem ca_35 {p : Program} {l : Launch} {e : Env} {s : State} {m : MethodId} {below : List Frame} {meth : Method} {c : Code} {b k n : Nat} {xs : Nat → Int32} {ls : Array Slot} {Λ : Lay} {σ : Mem} (C0 : lw_At p s m meth c b 6 xs) (hl : lv_has ls 4 [(3, .int 0), (2, .ref (s.heap.size + 646)), (1, .ref (s.heap.size + 0)), (0, .ref b)]) (hk : k ≤ 600000 ∧ n ≤ 7302250) (hD : DeskL 669 Λ 0) (h0 : Desk0 σ 0) (hM : ModL 669 Λ 646) (hZ : MZ σ 646) (hE : ∀ σ', LW p l e s m below meth c b k n 1461 ls [] 669 Λ σ') : LW p l e s m below meth c b k n 1438 ls [] 669 Λ σ := by
  refine L_al C0 dl_1438 rfl (lv_at hl 2 rfl) ?_
  refine L_arg 1 C0 hl dl_1439 dl_1440 dl_1441 dl_1442 dl_1443 rfl (by decide) ?_
  refine L_callI (t := 0) (d := 10) (As := [(0, (xs 1).toInt)]) (rest := []) C0 hl dl_1444 ok_mX11_count ml_L_160 rfl (by decide) (by decide) hk (by decide) rfl (okl [xs 1]) kX11 hD.1 (kd_count hD h0 (by decide) fun σ1 f1 => ?_)
  refine L_al C0 dl_1447 rfl (lv_at hl 1 rfl) ?_
  refine L_arg 1 C0 hl dl_1448 dl_1449 dl_1450 dl_1451 dl_1452 rfl (by decide) ?_
  refine L_callI (t := 646) (d := 10) (As := [(0, (xs 1).toInt)]) C0 hl dl_1453 ok_mX12_count ml_L_163 rfl (by decide) (by decide) hk h8I rfl (okl [xs 1]) kX12 hM.1 (km_count hM (hZ.keep f1) (by decide) fun σ2 => ?_)
  exact L_cmpI C0 dl_1456 rfl (hE σ2)
