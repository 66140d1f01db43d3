theorem h8I {B : Nat} {v : Int} : ([tv B (0, v)].map fun v => v.category).sum ≤ 8 := (show (1 : Nat) ≤ 8 by decide)
theorem ca_0 {p : Program} {l : Launch} {e : Env} {s : State} {m : MethodId} {below : List Frame} {meth : Method} {c : Code} {b k n L : Nat} {xs : Nat → Int32} {ls : Array Slot} {Λ : Lay} {σ : Mem} {i : Int} (C0 : lw_At p s m meth c b L xs) (hL : L ≤ 3072) (hi : 0 ≤ i ∧ i + 6 ≤ L) (hl : lv_has ls 4 [(3, .int (Int32.ofInt i)), (2, .ref (s.heap.size + 646)), (1, .ref (s.heap.size + 0)), (0, .ref b)]) (hk : k ≤ 600000 ∧ n ≤ 7302250) (hI : LI Λ σ) (hE : ∀ Λ' σ', LI Λ' σ' → LW p l e s m below meth c b k n 1460 ls [] 669 Λ' σ') : LW p l e s m below meth c b k n 192 ls [] 669 Λ σ := by
  refine L_al C0 dl_192 rfl (lv_at hl 2 rfl) ?_
  refine L_arg 1 C0 hL hi hl dl_193 dl_194 dl_195 dl_196 dl_197 rfl (by decide) ?_
  refine L_arg 2 C0 hL hi hl dl_198 dl_199 dl_200 dl_201 dl_202 rfl (by decide) ?_
  refine L_arg 3 C0 hL hi hl dl_203 dl_204 dl_205 dl_206 dl_207 rfl (by decide) ?_
  refine L_arg 4 C0 hL hi hl dl_208 dl_209 dl_210 dl_211 dl_212 rfl (by decide) ?_
  refine L_arg 5 C0 hL hi hl dl_213 dl_214 dl_215 dl_216 dl_217 rfl (by decide) ?_
  refine L_callI (t := 0) (d := 20) (As := [(0, (xs (i + ((1 : Nat) : Int)).toNat).toInt), (0, (xs (i + ((2 : Nat) : Int)).toNat).toInt), (0, (xs (i + ((3 : Nat) : Int)).toNat).toInt), (0, (xs (i + ((4 : Nat) : Int)).toNat).toInt), (0, (xs (i + ((5 : Nat) : Int)).toNat).toInt)]) (rest := []) C0 hl dl_218 ok_mX11_feed ml_L_13 rfl (by decide) (by decide) hk (by decide) rfl (okl [(xs (i + ((1 : Nat) : Int)).toNat), (xs (i + ((2 : Nat) : Int)).toNat), (xs (i + ((3 : Nat) : Int)).toNat), (xs (i + ((4 : Nat) : Int)).toNat), (xs (i + ((5 : Nat) : Int)).toNat)]) kX11 hI.1.1 (G_feed hI.1 hI.2.1 (by decide) fun v1 σ1 hG1 => ?_)
  have hI1 := hI.cls hG1
  refine L_pop C0 dl_221 ?_
  refine L_al C0 dl_222 rfl (lv_at hl 1 rfl) ?_
  refine L_arg 1 C0 hL hi hl dl_223 dl_224 dl_225 dl_226 dl_227 rfl (by decide) ?_
  refine L_arg 2 C0 hL hi hl dl_228 dl_229 dl_230 dl_231 dl_232 rfl (by decide) ?_
  refine L_arg 3 C0 hL hi hl dl_233 dl_234 dl_235 dl_236 dl_237 rfl (by decide) ?_
  refine L_arg 4 C0 hL hi hl dl_238 dl_239 dl_240 dl_241 dl_242 rfl (by decide) ?_
  refine L_arg 5 C0 hL hi hl dl_243 dl_244 dl_245 dl_246 dl_247 rfl (by decide) ?_
  refine L_callI (t := 646) (d := 20) (As := [(0, (xs (i + ((1 : Nat) : Int)).toNat).toInt), (0, (xs (i + ((2 : Nat) : Int)).toNat).toInt), (0, (xs (i + ((3 : Nat) : Int)).toNat).toInt), (0, (xs (i + ((4 : Nat) : Int)).toNat).toInt), (0, (xs (i + ((5 : Nat) : Int)).toNat).toInt)]) (rest := []) C0 hl dl_248 ok_mX12_feed ml_L_17 rfl (by decide) (by decide) hk (by decide) rfl (okl [(xs (i + ((1 : Nat) : Int)).toNat), (xs (i + ((2 : Nat) : Int)).toNat), (xs (i + ((3 : Nat) : Int)).toNat), (xs (i + ((4 : Nat) : Int)).toNat), (xs (i + ((5 : Nat) : Int)).toNat)]) kX12 (show LI Λ _ from hI1).2.2.1.1 (Q_feed hI1.2.2.1 hI1.2.2.2.1 (by decide) fun v2 σ2 hR2 => ?_)
  refine L_pop C0 dl_251 ?_
  exact L_goto C0 dl_252 rfl (hE _ _ (hI1.ref hR2))
theorem ca_1 {p : Program} {l : Launch} {e : Env} {s : State} {m : MethodId} {below : List Frame} {meth : Method} {c : Code} {b k n L : Nat} {xs : Nat → Int32} {ls : Array Slot} {Λ : Lay} {σ : Mem} {i : Int} (C0 : lw_At p s m meth c b L xs) (hL : L ≤ 3072) (hi : 0 ≤ i ∧ i + 6 ≤ L) (hl : lv_has ls 4 [(3, .int (Int32.ofInt i)), (2, .ref (s.heap.size + 646)), (1, .ref (s.heap.size + 0)), (0, .ref b)]) (hk : k ≤ 600000 ∧ n ≤ 7302250) (hI : LI Λ σ) (hE : ∀ Λ' σ', LI Λ' σ' → LW p l e s m below meth c b k n 1460 ls [] 669 Λ' σ') : LW p l e s m below meth c b k n 255 ls [] 669 Λ σ := by
  refine L_al C0 dl_255 rfl (lv_at hl 2 rfl) ?_
  refine L_arg 1 C0 hL hi hl dl_256 dl_257 dl_258 dl_259 dl_260 rfl (by decide) ?_
  refine L_arg 2 C0 hL hi hl dl_261 dl_262 dl_263 dl_264 dl_265 rfl (by decide) ?_
  refine L_callI (t := 0) (d := 20) (As := [(0, (xs (i + ((1 : Nat) : Int)).toNat).toInt), (0, (xs (i + ((2 : Nat) : Int)).toNat).toInt)]) (rest := []) C0 hl dl_266 ok_mX11_told ml_L_18 rfl (by decide) (by decide) hk (by decide) rfl (okl [(xs (i + ((1 : Nat) : Int)).toNat), (xs (i + ((2 : Nat) : Int)).toNat)]) kX11 hI.1.1 (G_told hI.1 hI.2.1 (by decide) fun v1 σ1 hG1 => ?_)
  have hI1 := hI.cls hG1
  refine L_pop C0 dl_269 ?_
  refine L_al C0 dl_270 rfl (lv_at hl 1 rfl) ?_
  refine L_arg 1 C0 hL hi hl dl_271 dl_272 dl_273 dl_274 dl_275 rfl (by decide) ?_
  refine L_arg 2 C0 hL hi hl dl_276 dl_277 dl_278 dl_279 dl_280 rfl (by decide) ?_
  refine L_callI (t := 646) (d := 20) (As := [(0, (xs (i + ((1 : Nat) : Int)).toNat).toInt), (0, (xs (i + ((2 : Nat) : Int)).toNat).toInt)]) (rest := []) C0 hl dl_281 ok_mX12_told ml_L_22 rfl (by decide) (by decide) hk (by decide) rfl (okl [(xs (i + ((1 : Nat) : Int)).toNat), (xs (i + ((2 : Nat) : Int)).toNat)]) kX12 (show LI Λ _ from hI1).2.2.1.1 (Q_told hI1.2.2.1 hI1.2.2.2.1 (by decide) fun v2 σ2 hR2 => ?_)
  refine L_pop C0 dl_284 ?_
  exact L_goto C0 dl_285 rfl (hE _ _ (hI1.ref hR2))
theorem ca_2 {p : Program} {l : Launch} {e : Env} {s : State} {m : MethodId} {below : List Frame} {meth : Method} {c : Code} {b k n L : Nat} {xs : Nat → Int32} {ls : Array Slot} {Λ : Lay} {σ : Mem} {i : Int} (C0 : lw_At p s m meth c b L xs) (hL : L ≤ 3072) (hi : 0 ≤ i ∧ i + 6 ≤ L) (hl : lv_has ls 4 [(3, .int (Int32.ofInt i)), (2, .ref (s.heap.size + 646)), (1, .ref (s.heap.size + 0)), (0, .ref b)]) (hk : k ≤ 600000 ∧ n ≤ 7302250) (hI : LI Λ σ) (hE : ∀ Λ' σ', LI Λ' σ' → LW p l e s m below meth c b k n 1460 ls [] 669 Λ' σ') : LW p l e s m below meth c b k n 288 ls [] 669 Λ σ := by
  refine L_al C0 dl_288 rfl (lv_at hl 2 rfl) ?_
  refine L_arg 1 C0 hL hi hl dl_289 dl_290 dl_291 dl_292 dl_293 rfl (by decide) ?_
  refine L_arg 2 C0 hL hi hl dl_294 dl_295 dl_296 dl_297 dl_298 rfl (by decide) ?_
  refine L_callI (t := 0) (d := 20) (As := [(0, (xs (i + ((1 : Nat) : Int)).toNat).toInt), (0, (xs (i + ((2 : Nat) : Int)).toNat).toInt)]) (rest := []) C0 hl dl_299 ok_mX11_figure ml_L_23 rfl (by decide) (by decide) hk (by decide) rfl (okl [(xs (i + ((1 : Nat) : Int)).toNat), (xs (i + ((2 : Nat) : Int)).toNat)]) kX11 hI.1.1 (G_figure hI.1 hI.2.1 (by decide) fun v1 σ1 hG1 => ?_)
  have hI1 := hI.cls hG1
  refine L_pop C0 dl_302 ?_
  refine L_al C0 dl_303 rfl (lv_at hl 1 rfl) ?_
  refine L_arg 1 C0 hL hi hl dl_304 dl_305 dl_306 dl_307 dl_308 rfl (by decide) ?_
  refine L_arg 2 C0 hL hi hl dl_309 dl_310 dl_311 dl_312 dl_313 rfl (by decide) ?_
  refine L_callI (t := 646) (d := 20) (As := [(0, (xs (i + ((1 : Nat) : Int)).toNat).toInt), (0, (xs (i + ((2 : Nat) : Int)).toNat).toInt)]) (rest := []) C0 hl dl_314 ok_mX12_figure ml_L_26 rfl (by decide) (by decide) hk (by decide) rfl (okl [(xs (i + ((1 : Nat) : Int)).toNat), (xs (i + ((2 : Nat) : Int)).toNat)]) kX12 (show LI Λ _ from hI1).2.2.1.1 (Q_figure hI1.2.2.1 hI1.2.2.2.1 (by decide) fun v2 σ2 hR2 => ?_)
  refine L_pop C0 dl_317 ?_
  exact L_goto C0 dl_318 rfl (hE _ _ (hI1.ref hR2))
theorem ca_3 {p : Program} {l : Launch} {e : Env} {s : State} {m : MethodId} {below : List Frame} {meth : Method} {c : Code} {b k n L : Nat} {xs : Nat → Int32} {ls : Array Slot} {Λ : Lay} {σ : Mem} {i : Int} (C0 : lw_At p s m meth c b L xs) (hL : L ≤ 3072) (hi : 0 ≤ i ∧ i + 6 ≤ L) (hl : lv_has ls 4 [(3, .int (Int32.ofInt i)), (2, .ref (s.heap.size + 646)), (1, .ref (s.heap.size + 0)), (0, .ref b)]) (hk : k ≤ 600000 ∧ n ≤ 7302250) (hI : LI Λ σ) (hE : ∀ Λ' σ', LI Λ' σ' → LW p l e s m below meth c b k n 1460 ls [] 669 Λ' σ') : LW p l e s m below meth c b k n 321 ls [] 669 Λ σ := by
  refine L_al C0 dl_321 rfl (lv_at hl 2 rfl) ?_
  refine L_arg 1 C0 hL hi hl dl_322 dl_323 dl_324 dl_325 dl_326 rfl (by decide) ?_
  refine L_callI (t := 0) (d := 20) (As := [(0, (xs (i + ((1 : Nat) : Int)).toNat).toInt)]) (rest := []) C0 hl dl_327 ok_mX11_fault ml_L_27 rfl (by decide) (by decide) hk (by decide) rfl (okl [(xs (i + ((1 : Nat) : Int)).toNat)]) kX11 hI.1.1 (G_fault hI.1 hI.2.1 (by decide) fun v1 σ1 hG1 => ?_)
  have hI1 := hI.cls hG1
  refine L_pop C0 dl_330 ?_
  refine L_al C0 dl_331 rfl (lv_at hl 1 rfl) ?_
  refine L_arg 1 C0 hL hi hl dl_332 dl_333 dl_334 dl_335 dl_336 rfl (by decide) ?_
  refine L_callI (t := 646) (d := 20) (As := [(0, (xs (i + ((1 : Nat) : Int)).toNat).toInt)]) (rest := []) C0 hl dl_337 ok_mX12_fault ml_L_31 rfl (by decide) (by decide) hk (by decide) rfl (okl [(xs (i + ((1 : Nat) : Int)).toNat)]) kX12 (show LI Λ _ from hI1).2.2.1.1 (Q_fault hI1.2.2.1 hI1.2.2.2.1 (by decide) fun v2 σ2 hR2 => ?_)
  refine L_pop C0 dl_340 ?_
  exact L_goto C0 dl_341 rfl (hE _ _ (hI1.ref hR2))
theorem ca_4 {p : Program} {l : Launch} {e : Env} {s : State} {m : MethodId} {below : List Frame} {meth : Method} {c : Code} {b k n L : Nat} {xs : Nat → Int32} {ls : Array Slot} {Λ : Lay} {σ : Mem} {i : Int} (C0 : lw_At p s m meth c b L xs) (hL : L ≤ 3072) (hi : 0 ≤ i ∧ i + 6 ≤ L) (hl : lv_has ls 4 [(3, .int (Int32.ofInt i)), (2, .ref (s.heap.size + 646)), (1, .ref (s.heap.size + 0)), (0, .ref b)]) (hk : k ≤ 600000 ∧ n ≤ 7302250) (hI : LI Λ σ) (hE : ∀ Λ' σ', LI Λ' σ' → LW p l e s m below meth c b k n 1460 ls [] 669 Λ' σ') : LW p l e s m below meth c b k n 344 ls [] 669 Λ σ := by
  refine L_al C0 dl_344 rfl (lv_at hl 2 rfl) ?_
  refine L_callI (t := 0) (d := 20) (As := []) (rest := []) C0 hl dl_345 ok_mX11_why ml_L_32 rfl (by decide) (by decide) hk (by decide) rfl (okl []) kX11 hI.1.1 (G_why hI.1 hI.2.1 (by decide) fun v1 σ1 hG1 => ?_)
  have hI1 := hI.cls hG1
  refine L_pop C0 dl_348 ?_
  refine L_al C0 dl_349 rfl (lv_at hl 1 rfl) ?_
  refine L_callI (t := 646) (d := 20) (As := []) (rest := []) C0 hl dl_350 ok_mX12_why ml_L_36 rfl (by decide) (by decide) hk (by decide) rfl (okl []) kX12 (show LI Λ _ from hI1).2.2.1.1 (Q_why hI1.2.2.1 hI1.2.2.2.1 (by decide) fun v2 σ2 hR2 => ?_)
  refine L_pop C0 dl_353 ?_
  exact L_goto C0 dl_354 rfl (hE _ _ (hI1.ref hR2))
theorem ca_5 {p : Program} {l : Launch} {e : Env} {s : State} {m : MethodId} {below : List Frame} {meth : Method} {c : Code} {b k n L : Nat} {xs : Nat → Int32} {ls : Array Slot} {Λ : Lay} {σ : Mem} {i : Int} (C0 : lw_At p s m meth c b L xs) (hL : L ≤ 3072) (hi : 0 ≤ i ∧ i + 6 ≤ L) (hl : lv_has ls 4 [(3, .int (Int32.ofInt i)), (2, .ref (s.heap.size + 646)), (1, .ref (s.heap.size + 0)), (0, .ref b)]) (hk : k ≤ 600000 ∧ n ≤ 7302250) (hI : LI Λ σ) (hE : ∀ Λ' σ', LI Λ' σ' → LW p l e s m below meth c b k n 1460 ls [] 669 Λ' σ') : LW p l e s m below meth c b k n 357 ls [] 669 Λ σ := by
  refine L_al C0 dl_357 rfl (lv_at hl 2 rfl) ?_
  refine L_arg 1 C0 hL hi hl dl_358 dl_359 dl_360 dl_361 dl_362 rfl (by decide) ?_
  refine L_callI (t := 0) (d := 20) (As := [(0, (xs (i + ((1 : Nat) : Int)).toNat).toInt)]) (rest := []) C0 hl dl_363 ok_mX11_clear ml_L_37 rfl (by decide) (by decide) hk (by decide) rfl (okl [(xs (i + ((1 : Nat) : Int)).toNat)]) kX11 hI.1.1 (G_clear hI.1 hI.2.1 (by decide) fun v1 σ1 hG1 => ?_)
  have hI1 := hI.cls hG1
  refine L_pop C0 dl_366 ?_
  refine L_al C0 dl_367 rfl (lv_at hl 1 rfl) ?_
  refine L_arg 1 C0 hL hi hl dl_368 dl_369 dl_370 dl_371 dl_372 rfl (by decide) ?_
  refine L_callI (t := 646) (d := 20) (As := [(0, (xs (i + ((1 : Nat) : Int)).toNat).toInt)]) (rest := []) C0 hl dl_373 ok_mX12_clear ml_L_40 rfl (by decide) (by decide) hk (by decide) rfl (okl [(xs (i + ((1 : Nat) : Int)).toNat)]) kX12 (show LI Λ _ from hI1).2.2.1.1 (Q_clear hI1.2.2.1 hI1.2.2.2.1 (by decide) fun v2 σ2 hR2 => ?_)
  refine L_pop C0 dl_376 ?_
  exact L_goto C0 dl_377 rfl (hE _ _ (hI1.ref hR2))
theorem ca_6 {p : Program} {l : Launch} {e : Env} {s : State} {m : MethodId} {below : List Frame} {meth : Method} {c : Code} {b k n L : Nat} {xs : Nat → Int32} {ls : Array Slot} {Λ : Lay} {σ : Mem} {i : Int} (C0 : lw_At p s m meth c b L xs) (hL : L ≤ 3072) (hi : 0 ≤ i ∧ i + 6 ≤ L) (hl : lv_has ls 4 [(3, .int (Int32.ofInt i)), (2, .ref (s.heap.size + 646)), (1, .ref (s.heap.size + 0)), (0, .ref b)]) (hk : k ≤ 600000 ∧ n ≤ 7302250) (hI : LI Λ σ) (hE : ∀ Λ' σ', LI Λ' σ' → LW p l e s m below meth c b k n 1460 ls [] 669 Λ' σ') : LW p l e s m below meth c b k n 380 ls [] 669 Λ σ := by
  refine L_al C0 dl_380 rfl (lv_at hl 2 rfl) ?_
  refine L_arg 1 C0 hL hi hl dl_381 dl_382 dl_383 dl_384 dl_385 rfl (by decide) ?_
  refine L_arg 2 C0 hL hi hl dl_386 dl_387 dl_388 dl_389 dl_390 rfl (by decide) ?_
  refine L_callI (t := 0) (d := 20) (As := [(0, (xs (i + ((1 : Nat) : Int)).toNat).toInt), (0, (xs (i + ((2 : Nat) : Int)).toNat).toInt)]) (rest := []) C0 hl dl_391 ok_mX11_copy ml_L_41 rfl (by decide) (by decide) hk (by decide) rfl (okl [(xs (i + ((1 : Nat) : Int)).toNat), (xs (i + ((2 : Nat) : Int)).toNat)]) kX11 hI.1.1 (G_copy hI.1 hI.2.1 (by decide) fun v1 σ1 hG1 => ?_)
  have hI1 := hI.cls hG1
  refine L_pop C0 dl_394 ?_
  refine L_al C0 dl_395 rfl (lv_at hl 1 rfl) ?_
  refine L_arg 1 C0 hL hi hl dl_396 dl_397 dl_398 dl_399 dl_400 rfl (by decide) ?_
  refine L_arg 2 C0 hL hi hl dl_401 dl_402 dl_403 dl_404 dl_405 rfl (by decide) ?_
  refine L_callI (t := 646) (d := 20) (As := [(0, (xs (i + ((1 : Nat) : Int)).toNat).toInt), (0, (xs (i + ((2 : Nat) : Int)).toNat).toInt)]) (rest := []) C0 hl dl_406 ok_mX12_copy ml_L_44 rfl (by decide) (by decide) hk (by decide) rfl (okl [(xs (i + ((1 : Nat) : Int)).toNat), (xs (i + ((2 : Nat) : Int)).toNat)]) kX12 (show LI Λ _ from hI1).2.2.1.1 (Q_copy hI1.2.2.1 hI1.2.2.2.1 (by decide) fun v2 σ2 hR2 => ?_)
  refine L_pop C0 dl_409 ?_
  exact L_goto C0 dl_410 rfl (hE _ _ (hI1.ref hR2))
theorem ca_7 {p : Program} {l : Launch} {e : Env} {s : State} {m : MethodId} {below : List Frame} {meth : Method} {c : Code} {b k n L : Nat} {xs : Nat → Int32} {ls : Array Slot} {Λ : Lay} {σ : Mem} {i : Int} (C0 : lw_At p s m meth c b L xs) (hL : L ≤ 3072) (hi : 0 ≤ i ∧ i + 6 ≤ L) (hl : lv_has ls 4 [(3, .int (Int32.ofInt i)), (2, .ref (s.heap.size + 646)), (1, .ref (s.heap.size + 0)), (0, .ref b)]) (hk : k ≤ 600000 ∧ n ≤ 7302250) (hI : LI Λ σ) (hE : ∀ Λ' σ', LI Λ' σ' → LW p l e s m below meth c b k n 1460 ls [] 669 Λ' σ') : LW p l e s m below meth c b k n 413 ls [] 669 Λ σ := by
  refine L_al C0 dl_413 rfl (lv_at hl 2 rfl) ?_
  refine L_arg 1 C0 hL hi hl dl_414 dl_415 dl_416 dl_417 dl_418 rfl (by decide) ?_
  refine L_arg 2 C0 hL hi hl dl_419 dl_420 dl_421 dl_422 dl_423 rfl (by decide) ?_
  refine L_arg 3 C0 hL hi hl dl_424 dl_425 dl_426 dl_427 dl_428 rfl (by decide) ?_
  refine L_arg 4 C0 hL hi hl dl_429 dl_430 dl_431 dl_432 dl_433 rfl (by decide) ?_
  refine L_callI (t := 0) (d := 20) (As := [(0, (xs (i + ((1 : Nat) : Int)).toNat).toInt), (0, (xs (i + ((2 : Nat) : Int)).toNat).toInt), (0, (xs (i + ((3 : Nat) : Int)).toNat).toInt), (0, (xs (i + ((4 : Nat) : Int)).toNat).toInt)]) (rest := []) C0 hl dl_434 ok_mX11_bracket ml_L_45 rfl (by decide) (by decide) hk (by decide) rfl (okl [(xs (i + ((1 : Nat) : Int)).toNat), (xs (i + ((2 : Nat) : Int)).toNat), (xs (i + ((3 : Nat) : Int)).toNat), (xs (i + ((4 : Nat) : Int)).toNat)]) kX11 hI.1.1 (G_bracket hI.1 hI.2.1 (by decide) fun v1 σ1 hG1 => ?_)
  have hI1 := hI.cls hG1
  refine L_pop C0 dl_437 ?_
  refine L_al C0 dl_438 rfl (lv_at hl 1 rfl) ?_
  refine L_arg 1 C0 hL hi hl dl_439 dl_440 dl_441 dl_442 dl_443 rfl (by decide) ?_
  refine L_arg 2 C0 hL hi hl dl_444 dl_445 dl_446 dl_447 dl_448 rfl (by decide) ?_
  refine L_arg 3 C0 hL hi hl dl_449 dl_450 dl_451 dl_452 dl_453 rfl (by decide) ?_
  refine L_arg 4 C0 hL hi hl dl_454 dl_455 dl_456 dl_457 dl_458 rfl (by decide) ?_
  refine L_callI (t := 646) (d := 20) (As := [(0, (xs (i + ((1 : Nat) : Int)).toNat).toInt), (0, (xs (i + ((2 : Nat) : Int)).toNat).toInt), (0, (xs (i + ((3 : Nat) : Int)).toNat).toInt), (0, (xs (i + ((4 : Nat) : Int)).toNat).toInt)]) (rest := []) C0 hl dl_459 ok_mX12_bracket ml_L_49 rfl (by decide) (by decide) hk (by decide) rfl (okl [(xs (i + ((1 : Nat) : Int)).toNat), (xs (i + ((2 : Nat) : Int)).toNat), (xs (i + ((3 : Nat) : Int)).toNat), (xs (i + ((4 : Nat) : Int)).toNat)]) kX12 (show LI Λ _ from hI1).2.2.1.1 (Q_bracket hI1.2.2.1 hI1.2.2.2.1 (by decide) fun v2 σ2 hR2 => ?_)
  refine L_pop C0 dl_462 ?_
  exact L_goto C0 dl_463 rfl (hE _ _ (hI1.ref hR2))
theorem ca_8 {p : Program} {l : Launch} {e : Env} {s : State} {m : MethodId} {below : List Frame} {meth : Method} {c : Code} {b k n L : Nat} {xs : Nat → Int32} {ls : Array Slot} {Λ : Lay} {σ : Mem} {i : Int} (C0 : lw_At p s m meth c b L xs) (hL : L ≤ 3072) (hi : 0 ≤ i ∧ i + 6 ≤ L) (hl : lv_has ls 4 [(3, .int (Int32.ofInt i)), (2, .ref (s.heap.size + 646)), (1, .ref (s.heap.size + 0)), (0, .ref b)]) (hk : k ≤ 600000 ∧ n ≤ 7302250) (hI : LI Λ σ) (hE : ∀ Λ' σ', LI Λ' σ' → LW p l e s m below meth c b k n 1460 ls [] 669 Λ' σ') : LW p l e s m below meth c b k n 466 ls [] 669 Λ σ := by
  refine L_al C0 dl_466 rfl (lv_at hl 2 rfl) ?_
  refine L_arg 1 C0 hL hi hl dl_467 dl_468 dl_469 dl_470 dl_471 rfl (by decide) ?_
  refine L_arg 2 C0 hL hi hl dl_472 dl_473 dl_474 dl_475 dl_476 rfl (by decide) ?_
  refine L_arg 3 C0 hL hi hl dl_477 dl_478 dl_479 dl_480 dl_481 rfl (by decide) ?_
  refine L_arg 4 C0 hL hi hl dl_482 dl_483 dl_484 dl_485 dl_486 rfl (by decide) ?_
  refine L_callI (t := 0) (d := 20) (As := [(0, (xs (i + ((1 : Nat) : Int)).toNat).toInt), (0, (xs (i + ((2 : Nat) : Int)).toNat).toInt), (0, (xs (i + ((3 : Nat) : Int)).toNat).toInt), (0, (xs (i + ((4 : Nat) : Int)).toNat).toInt)]) (rest := []) C0 hl dl_487 ok_mX11_exchange ml_L_50 rfl (by decide) (by decide) hk (by decide) rfl (okl [(xs (i + ((1 : Nat) : Int)).toNat), (xs (i + ((2 : Nat) : Int)).toNat), (xs (i + ((3 : Nat) : Int)).toNat), (xs (i + ((4 : Nat) : Int)).toNat)]) kX11 hI.1.1 (X_exchange hI.1 hI.2.1 (by decide) fun σ1 hG1 => ?_)
  have hI1 := hI.cls hG1
  refine L_al C0 dl_490 rfl (lv_at hl 1 rfl) ?_
  refine L_arg 1 C0 hL hi hl dl_491 dl_492 dl_493 dl_494 dl_495 rfl (by decide) ?_
  refine L_arg 2 C0 hL hi hl dl_496 dl_497 dl_498 dl_499 dl_500 rfl (by decide) ?_
  refine L_arg 3 C0 hL hi hl dl_501 dl_502 dl_503 dl_504 dl_505 rfl (by decide) ?_
  refine L_arg 4 C0 hL hi hl dl_506 dl_507 dl_508 dl_509 dl_510 rfl (by decide) ?_
  refine L_callI (t := 646) (d := 20) (As := [(0, (xs (i + ((1 : Nat) : Int)).toNat).toInt), (0, (xs (i + ((2 : Nat) : Int)).toNat).toInt), (0, (xs (i + ((3 : Nat) : Int)).toNat).toInt), (0, (xs (i + ((4 : Nat) : Int)).toNat).toInt)]) C0 hl dl_511 ok_mX12_exchange ml_L_53 rfl (by decide) (by decide) hk h8I rfl (okl [(xs (i + ((1 : Nat) : Int)).toNat), (xs (i + ((2 : Nat) : Int)).toNat), (xs (i + ((3 : Nat) : Int)).toNat), (xs (i + ((4 : Nat) : Int)).toNat)]) kX12 (show LI Λ _ from hI1).2.2.1.1 (Y_exchange hI1.2.2.1 hI1.2.2.2.1 (by decide) fun σ2 hR2 => ?_)
  exact L_cmpI C0 dl_514 rfl (hE _ _ (hI1.ref hR2))
theorem ca_9 {p : Program} {l : Launch} {e : Env} {s : State} {m : MethodId} {below : List Frame} {meth : Method} {c : Code} {b k n L : Nat} {xs : Nat → Int32} {ls : Array Slot} {Λ : Lay} {σ : Mem} {i : Int} (C0 : lw_At p s m meth c b L xs) (hL : L ≤ 3072) (hi : 0 ≤ i ∧ i + 6 ≤ L) (hl : lv_has ls 4 [(3, .int (Int32.ofInt i)), (2, .ref (s.heap.size + 646)), (1, .ref (s.heap.size + 0)), (0, .ref b)]) (hk : k ≤ 600000 ∧ n ≤ 7302250) (hI : LI Λ σ) (hE : ∀ Λ' σ', LI Λ' σ' → LW p l e s m below meth c b k n 1460 ls [] 669 Λ' σ') : LW p l e s m below meth c b k n 519 ls [] 669 Λ σ := by
  refine L_al C0 dl_519 rfl (lv_at hl 2 rfl) ?_
  refine L_arg 1 C0 hL hi hl dl_520 dl_521 dl_522 dl_523 dl_524 rfl (by decide) ?_
  refine L_arg 2 C0 hL hi hl dl_525 dl_526 dl_527 dl_528 dl_529 rfl (by decide) ?_
  refine L_arg 3 C0 hL hi hl dl_530 dl_531 dl_532 dl_533 dl_534 rfl (by decide) ?_
  refine L_arg 4 C0 hL hi hl dl_535 dl_536 dl_537 dl_538 dl_539 rfl (by decide) ?_
  refine L_arg 5 C0 hL hi hl dl_540 dl_541 dl_542 dl_543 dl_544 rfl (by decide) ?_
  refine L_callI (t := 0) (d := 20) (As := [(0, (xs (i + ((1 : Nat) : Int)).toNat).toInt), (0, (xs (i + ((2 : Nat) : Int)).toNat).toInt), (0, (xs (i + ((3 : Nat) : Int)).toNat).toInt), (0, (xs (i + ((4 : Nat) : Int)).toNat).toInt), (0, (xs (i + ((5 : Nat) : Int)).toNat).toInt)]) (rest := []) C0 hl dl_545 ok_mX11_add ml_L_54 rfl (by decide) (by decide) hk (by decide) rfl (okl [(xs (i + ((1 : Nat) : Int)).toNat), (xs (i + ((2 : Nat) : Int)).toNat), (xs (i + ((3 : Nat) : Int)).toNat), (xs (i + ((4 : Nat) : Int)).toNat), (xs (i + ((5 : Nat) : Int)).toNat)]) kX11 hI.1.1 (G_add hI.1 hI.2.1 (by decide) fun v1 σ1 hG1 => ?_)
  have hI1 := hI.cls hG1
  refine L_pop C0 dl_548 ?_
  refine L_al C0 dl_549 rfl (lv_at hl 1 rfl) ?_
  refine L_arg 1 C0 hL hi hl dl_550 dl_551 dl_552 dl_553 dl_554 rfl (by decide) ?_
  refine L_arg 2 C0 hL hi hl dl_555 dl_556 dl_557 dl_558 dl_559 rfl (by decide) ?_
  refine L_arg 3 C0 hL hi hl dl_560 dl_561 dl_562 dl_563 dl_564 rfl (by decide) ?_
  refine L_arg 4 C0 hL hi hl dl_565 dl_566 dl_567 dl_568 dl_569 rfl (by decide) ?_
  refine L_arg 5 C0 hL hi hl dl_570 dl_571 dl_572 dl_573 dl_574 rfl (by decide) ?_
  refine L_callI (t := 646) (d := 20) (As := [(0, (xs (i + ((1 : Nat) : Int)).toNat).toInt), (0, (xs (i + ((2 : Nat) : Int)).toNat).toInt), (0, (xs (i + ((3 : Nat) : Int)).toNat).toInt), (0, (xs (i + ((4 : Nat) : Int)).toNat).toInt), (0, (xs (i + ((5 : Nat) : Int)).toNat).toInt)]) (rest := []) C0 hl dl_575 ok_mX12_add ml_L_57 rfl (by decide) (by decide) hk (by decide) rfl (okl [(xs (i + ((1 : Nat) : Int)).toNat), (xs (i + ((2 : Nat) : Int)).toNat), (xs (i + ((3 : Nat) : Int)).toNat), (xs (i + ((4 : Nat) : Int)).toNat), (xs (i + ((5 : Nat) : Int)).toNat)]) kX12 (show LI Λ _ from hI1).2.2.1.1 (Q_add hI1.2.2.1 hI1.2.2.2.1 (by decide) fun v2 σ2 hR2 => ?_)
  refine L_pop C0 dl_578 ?_
  exact L_goto C0 dl_579 rfl (hE _ _ (hI1.ref hR2))
theorem ca_10 {p : Program} {l : Launch} {e : Env} {s : State} {m : MethodId} {below : List Frame} {meth : Method} {c : Code} {b k n L : Nat} {xs : Nat → Int32} {ls : Array Slot} {Λ : Lay} {σ : Mem} {i : Int} (C0 : lw_At p s m meth c b L xs) (hL : L ≤ 3072) (hi : 0 ≤ i ∧ i + 6 ≤ L) (hl : lv_has ls 4 [(3, .int (Int32.ofInt i)), (2, .ref (s.heap.size + 646)), (1, .ref (s.heap.size + 0)), (0, .ref b)]) (hk : k ≤ 600000 ∧ n ≤ 7302250) (hI : LI Λ σ) (hE : ∀ Λ' σ', LI Λ' σ' → LW p l e s m below meth c b k n 1460 ls [] 669 Λ' σ') : LW p l e s m below meth c b k n 582 ls [] 669 Λ σ := by
  refine L_al C0 dl_582 rfl (lv_at hl 2 rfl) ?_
  refine L_arg 1 C0 hL hi hl dl_583 dl_584 dl_585 dl_586 dl_587 rfl (by decide) ?_
  refine L_arg 2 C0 hL hi hl dl_588 dl_589 dl_590 dl_591 dl_592 rfl (by decide) ?_
  refine L_arg 3 C0 hL hi hl dl_593 dl_594 dl_595 dl_596 dl_597 rfl (by decide) ?_
  refine L_callI (t := 0) (d := 20) (As := [(0, (xs (i + ((1 : Nat) : Int)).toNat).toInt), (0, (xs (i + ((2 : Nat) : Int)).toNat).toInt), (0, (xs (i + ((3 : Nat) : Int)).toNat).toInt)]) (rest := []) C0 hl dl_598 ok_mX11_times ml_L_58 rfl (by decide) (by decide) hk (by decide) rfl (okl [(xs (i + ((1 : Nat) : Int)).toNat), (xs (i + ((2 : Nat) : Int)).toNat), (xs (i + ((3 : Nat) : Int)).toNat)]) kX11 hI.1.1 (G_times hI.1 hI.2.1 (by decide) fun v1 σ1 hG1 => ?_)
  have hI1 := hI.cls hG1
  refine L_pop C0 dl_601 ?_
  refine L_al C0 dl_602 rfl (lv_at hl 1 rfl) ?_
  refine L_arg 1 C0 hL hi hl dl_603 dl_604 dl_605 dl_606 dl_607 rfl (by decide) ?_
  refine L_arg 2 C0 hL hi hl dl_608 dl_609 dl_610 dl_611 dl_612 rfl (by decide) ?_
  refine L_arg 3 C0 hL hi hl dl_613 dl_614 dl_615 dl_616 dl_617 rfl (by decide) ?_
  refine L_callI (t := 646) (d := 20) (As := [(0, (xs (i + ((1 : Nat) : Int)).toNat).toInt), (0, (xs (i + ((2 : Nat) : Int)).toNat).toInt), (0, (xs (i + ((3 : Nat) : Int)).toNat).toInt)]) (rest := []) C0 hl dl_618 ok_mX12_times ml_L_62 rfl (by decide) (by decide) hk (by decide) rfl (okl [(xs (i + ((1 : Nat) : Int)).toNat), (xs (i + ((2 : Nat) : Int)).toNat), (xs (i + ((3 : Nat) : Int)).toNat)]) kX12 (show LI Λ _ from hI1).2.2.1.1 (Q_times hI1.2.2.1 hI1.2.2.2.1 (by decide) fun v2 σ2 hR2 => ?_)
  refine L_pop C0 dl_621 ?_
  exact L_goto C0 dl_622 rfl (hE _ _ (hI1.ref hR2))
theorem ca_11 {p : Program} {l : Launch} {e : Env} {s : State} {m : MethodId} {below : List Frame} {meth : Method} {c : Code} {b k n L : Nat} {xs : Nat → Int32} {ls : Array Slot} {Λ : Lay} {σ : Mem} {i : Int} (C0 : lw_At p s m meth c b L xs) (hL : L ≤ 3072) (hi : 0 ≤ i ∧ i + 6 ≤ L) (hl : lv_has ls 4 [(3, .int (Int32.ofInt i)), (2, .ref (s.heap.size + 646)), (1, .ref (s.heap.size + 0)), (0, .ref b)]) (hk : k ≤ 600000 ∧ n ≤ 7302250) (hI : LI Λ σ) (hE : ∀ Λ' σ', LI Λ' σ' → LW p l e s m below meth c b k n 1460 ls [] 669 Λ' σ') : LW p l e s m below meth c b k n 625 ls [] 669 Λ σ := by
  refine L_al C0 dl_625 rfl (lv_at hl 2 rfl) ?_
  refine L_arg 1 C0 hL hi hl dl_626 dl_627 dl_628 dl_629 dl_630 rfl (by decide) ?_
  refine L_arg 2 C0 hL hi hl dl_631 dl_632 dl_633 dl_634 dl_635 rfl (by decide) ?_
  refine L_arg 3 C0 hL hi hl dl_636 dl_637 dl_638 dl_639 dl_640 rfl (by decide) ?_
  refine L_arg 4 C0 hL hi hl dl_641 dl_642 dl_643 dl_644 dl_645 rfl (by decide) ?_
  refine L_callI (t := 0) (d := 20) (As := [(0, (xs (i + ((1 : Nat) : Int)).toNat).toInt), (0, (xs (i + ((2 : Nat) : Int)).toNat).toInt), (0, (xs (i + ((3 : Nat) : Int)).toNat).toInt), (0, (xs (i + ((4 : Nat) : Int)).toNat).toInt)]) (rest := []) C0 hl dl_646 ok_mX11_put ml_L_63 rfl (by decide) (by decide) hk (by decide) rfl (okl [(xs (i + ((1 : Nat) : Int)).toNat), (xs (i + ((2 : Nat) : Int)).toNat), (xs (i + ((3 : Nat) : Int)).toNat), (xs (i + ((4 : Nat) : Int)).toNat)]) kX11 hI.1.1 (G_put hI.1 hI.2.1 (by decide) fun v1 σ1 hG1 => ?_)
  have hI1 := hI.cls hG1
  refine L_pop C0 dl_649 ?_
  refine L_al C0 dl_650 rfl (lv_at hl 1 rfl) ?_
  refine L_arg 1 C0 hL hi hl dl_651 dl_652 dl_653 dl_654 dl_655 rfl (by decide) ?_
  refine L_arg 2 C0 hL hi hl dl_656 dl_657 dl_658 dl_659 dl_660 rfl (by decide) ?_
  refine L_arg 3 C0 hL hi hl dl_661 dl_662 dl_663 dl_664 dl_665 rfl (by decide) ?_
  refine L_arg 4 C0 hL hi hl dl_666 dl_667 dl_668 dl_669 dl_670 rfl (by decide) ?_
  refine L_callI (t := 646) (d := 20) (As := [(0, (xs (i + ((1 : Nat) : Int)).toNat).toInt), (0, (xs (i + ((2 : Nat) : Int)).toNat).toInt), (0, (xs (i + ((3 : Nat) : Int)).toNat).toInt), (0, (xs (i + ((4 : Nat) : Int)).toNat).toInt)]) (rest := []) C0 hl dl_671 ok_mX12_put ml_L_66 rfl (by decide) (by decide) hk (by decide) rfl (okl [(xs (i + ((1 : Nat) : Int)).toNat), (xs (i + ((2 : Nat) : Int)).toNat), (xs (i + ((3 : Nat) : Int)).toNat), (xs (i + ((4 : Nat) : Int)).toNat)]) kX12 (show LI Λ _ from hI1).2.2.1.1 (Q_put hI1.2.2.1 hI1.2.2.2.1 (by decide) fun v2 σ2 hR2 => ?_)
  refine L_pop C0 dl_674 ?_
  exact L_goto C0 dl_675 rfl (hE _ _ (hI1.ref hR2))
theorem ca_12 {p : Program} {l : Launch} {e : Env} {s : State} {m : MethodId} {below : List Frame} {meth : Method} {c : Code} {b k n L : Nat} {xs : Nat → Int32} {ls : Array Slot} {Λ : Lay} {σ : Mem} {i : Int} (C0 : lw_At p s m meth c b L xs) (hL : L ≤ 3072) (hi : 0 ≤ i ∧ i + 6 ≤ L) (hl : lv_has ls 4 [(3, .int (Int32.ofInt i)), (2, .ref (s.heap.size + 646)), (1, .ref (s.heap.size + 0)), (0, .ref b)]) (hk : k ≤ 600000 ∧ n ≤ 7302250) (hI : LI Λ σ) (hE : ∀ Λ' σ', LI Λ' σ' → LW p l e s m below meth c b k n 1460 ls [] 669 Λ' σ') : LW p l e s m below meth c b k n 678 ls [] 669 Λ σ := by
  refine L_al C0 dl_678 rfl (lv_at hl 2 rfl) ?_
  refine L_arg 1 C0 hL hi hl dl_679 dl_680 dl_681 dl_682 dl_683 rfl (by decide) ?_
  refine L_arg 2 C0 hL hi hl dl_684 dl_685 dl_686 dl_687 dl_688 rfl (by decide) ?_
  refine L_arg 3 C0 hL hi hl dl_689 dl_690 dl_691 dl_692 dl_693 rfl (by decide) ?_
  refine L_arg 4 C0 hL hi hl dl_694 dl_695 dl_696 dl_697 dl_698 rfl (by decide) ?_
  refine L_callI (t := 0) (d := 20) (As := [(0, (xs (i + ((1 : Nat) : Int)).toNat).toInt), (0, (xs (i + ((2 : Nat) : Int)).toNat).toInt), (0, (xs (i + ((3 : Nat) : Int)).toNat).toInt), (0, (xs (i + ((4 : Nat) : Int)).toNat).toInt)]) (rest := []) C0 hl dl_699 ok_mX11_turn ml_L_67 rfl (by decide) (by decide) hk (by decide) rfl (okl [(xs (i + ((1 : Nat) : Int)).toNat), (xs (i + ((2 : Nat) : Int)).toNat), (xs (i + ((3 : Nat) : Int)).toNat), (xs (i + ((4 : Nat) : Int)).toNat)]) kX11 hI.1.1 (G_turn hI.1 hI.2.1 (by decide) fun v1 σ1 hG1 => ?_)
  have hI1 := hI.cls hG1
  refine L_pop C0 dl_702 ?_
  refine L_al C0 dl_703 rfl (lv_at hl 1 rfl) ?_
  refine L_arg 1 C0 hL hi hl dl_704 dl_705 dl_706 dl_707 dl_708 rfl (by decide) ?_
  refine L_arg 2 C0 hL hi hl dl_709 dl_710 dl_711 dl_712 dl_713 rfl (by decide) ?_
  refine L_arg 3 C0 hL hi hl dl_714 dl_715 dl_716 dl_717 dl_718 rfl (by decide) ?_
  refine L_arg 4 C0 hL hi hl dl_719 dl_720 dl_721 dl_722 dl_723 rfl (by decide) ?_
  refine L_callI (t := 646) (d := 20) (As := [(0, (xs (i + ((1 : Nat) : Int)).toNat).toInt), (0, (xs (i + ((2 : Nat) : Int)).toNat).toInt), (0, (xs (i + ((3 : Nat) : Int)).toNat).toInt), (0, (xs (i + ((4 : Nat) : Int)).toNat).toInt)]) (rest := []) C0 hl dl_724 ok_mX12_turn ml_L_70 rfl (by decide) (by decide) hk (by decide) rfl (okl [(xs (i + ((1 : Nat) : Int)).toNat), (xs (i + ((2 : Nat) : Int)).toNat), (xs (i + ((3 : Nat) : Int)).toNat), (xs (i + ((4 : Nat) : Int)).toNat)]) kX12 (show LI Λ _ from hI1).2.2.1.1 (Q_turn hI1.2.2.1 hI1.2.2.2.1 (by decide) fun v2 σ2 hR2 => ?_)
  refine L_pop C0 dl_727 ?_
  exact L_goto C0 dl_728 rfl (hE _ _ (hI1.ref hR2))
theorem ca_13 {p : Program} {l : Launch} {e : Env} {s : State} {m : MethodId} {below : List Frame} {meth : Method} {c : Code} {b k n L : Nat} {xs : Nat → Int32} {ls : Array Slot} {Λ : Lay} {σ : Mem} {i : Int} (C0 : lw_At p s m meth c b L xs) (hL : L ≤ 3072) (hi : 0 ≤ i ∧ i + 6 ≤ L) (hl : lv_has ls 4 [(3, .int (Int32.ofInt i)), (2, .ref (s.heap.size + 646)), (1, .ref (s.heap.size + 0)), (0, .ref b)]) (hk : k ≤ 600000 ∧ n ≤ 7302250) (hI : LI Λ σ) (hE : ∀ Λ' σ', LI Λ' σ' → LW p l e s m below meth c b k n 1460 ls [] 669 Λ' σ') : LW p l e s m below meth c b k n 731 ls [] 669 Λ σ := by
  refine L_al C0 dl_731 rfl (lv_at hl 2 rfl) ?_
  refine L_arg 1 C0 hL hi hl dl_732 dl_733 dl_734 dl_735 dl_736 rfl (by decide) ?_
  refine L_arg 2 C0 hL hi hl dl_737 dl_738 dl_739 dl_740 dl_741 rfl (by decide) ?_
  refine L_callI (t := 0) (d := 20) (As := [(0, (xs (i + ((1 : Nat) : Int)).toNat).toInt), (0, (xs (i + ((2 : Nat) : Int)).toNat).toInt)]) (rest := []) C0 hl dl_742 ok_mX11_straight ml_L_71 rfl (by decide) (by decide) hk (by decide) rfl (okl [(xs (i + ((1 : Nat) : Int)).toNat), (xs (i + ((2 : Nat) : Int)).toNat)]) kX11 hI.1.1 (G_straight hI.1 hI.2.1 (by decide) fun v1 σ1 hG1 => ?_)
  have hI1 := hI.cls hG1
  refine L_pop C0 dl_745 ?_
  refine L_al C0 dl_746 rfl (lv_at hl 1 rfl) ?_
  refine L_arg 1 C0 hL hi hl dl_747 dl_748 dl_749 dl_750 dl_751 rfl (by decide) ?_
  refine L_arg 2 C0 hL hi hl dl_752 dl_753 dl_754 dl_755 dl_756 rfl (by decide) ?_
  refine L_callI (t := 646) (d := 20) (As := [(0, (xs (i + ((1 : Nat) : Int)).toNat).toInt), (0, (xs (i + ((2 : Nat) : Int)).toNat).toInt)]) (rest := []) C0 hl dl_757 ok_mX12_straight ml_L_74 rfl (by decide) (by decide) hk (by decide) rfl (okl [(xs (i + ((1 : Nat) : Int)).toNat), (xs (i + ((2 : Nat) : Int)).toNat)]) kX12 (show LI Λ _ from hI1).2.2.1.1 (Q_straight hI1.2.2.1 hI1.2.2.2.1 (by decide) fun v2 σ2 hR2 => ?_)
  refine L_pop C0 dl_760 ?_
  exact L_goto C0 dl_761 rfl (hE _ _ (hI1.ref hR2))
theorem ca_14 {p : Program} {l : Launch} {e : Env} {s : State} {m : MethodId} {below : List Frame} {meth : Method} {c : Code} {b k n L : Nat} {xs : Nat → Int32} {ls : Array Slot} {Λ : Lay} {σ : Mem} {i : Int} (C0 : lw_At p s m meth c b L xs) (hL : L ≤ 3072) (hi : 0 ≤ i ∧ i + 6 ≤ L) (hl : lv_has ls 4 [(3, .int (Int32.ofInt i)), (2, .ref (s.heap.size + 646)), (1, .ref (s.heap.size + 0)), (0, .ref b)]) (hk : k ≤ 600000 ∧ n ≤ 7302250) (hI : LI Λ σ) (hE : ∀ Λ' σ', LI Λ' σ' → LW p l e s m below meth c b k n 1460 ls [] 669 Λ' σ') : LW p l e s m below meth c b k n 764 ls [] 669 Λ σ := by
  refine L_al C0 dl_764 rfl (lv_at hl 2 rfl) ?_
  refine L_arg 1 C0 hL hi hl dl_765 dl_766 dl_767 dl_768 dl_769 rfl (by decide) ?_
  refine L_arg 2 C0 hL hi hl dl_770 dl_771 dl_772 dl_773 dl_774 rfl (by decide) ?_
  refine L_callI (t := 0) (d := 20) (As := [(0, (xs (i + ((1 : Nat) : Int)).toNat).toInt), (0, (xs (i + ((2 : Nat) : Int)).toNat).toInt)]) (rest := []) C0 hl dl_775 ok_mX11_reduce ml_L_75 rfl (by decide) (by decide) hk (by decide) rfl (okl [(xs (i + ((1 : Nat) : Int)).toNat), (xs (i + ((2 : Nat) : Int)).toNat)]) kX11 hI.1.1 (G_reduce hI.1 hI.2.1 (by decide) fun v1 σ1 hG1 => ?_)
  have hI1 := hI.cls hG1
  refine L_pop C0 dl_778 ?_
  refine L_al C0 dl_779 rfl (lv_at hl 1 rfl) ?_
  refine L_arg 1 C0 hL hi hl dl_780 dl_781 dl_782 dl_783 dl_784 rfl (by decide) ?_
  refine L_arg 2 C0 hL hi hl dl_785 dl_786 dl_787 dl_788 dl_789 rfl (by decide) ?_
  refine L_callI (t := 646) (d := 20) (As := [(0, (xs (i + ((1 : Nat) : Int)).toNat).toInt), (0, (xs (i + ((2 : Nat) : Int)).toNat).toInt)]) (rest := []) C0 hl dl_790 ok_mX12_reduce ml_L_78 rfl (by decide) (by decide) hk (by decide) rfl (okl [(xs (i + ((1 : Nat) : Int)).toNat), (xs (i + ((2 : Nat) : Int)).toNat)]) kX12 (show LI Λ _ from hI1).2.2.1.1 (Q_reduce hI1.2.2.1 hI1.2.2.2.1 (by decide) fun v2 σ2 hR2 => ?_)
  refine L_pop C0 dl_793 ?_
  exact L_goto C0 dl_794 rfl (hE _ _ (hI1.ref hR2))
theorem ca_15 {p : Program} {l : Launch} {e : Env} {s : State} {m : MethodId} {below : List Frame} {meth : Method} {c : Code} {b k n L : Nat} {xs : Nat → Int32} {ls : Array Slot} {Λ : Lay} {σ : Mem} {i : Int} (C0 : lw_At p s m meth c b L xs) (hL : L ≤ 3072) (hi : 0 ≤ i ∧ i + 6 ≤ L) (hl : lv_has ls 4 [(3, .int (Int32.ofInt i)), (2, .ref (s.heap.size + 646)), (1, .ref (s.heap.size + 0)), (0, .ref b)]) (hk : k ≤ 600000 ∧ n ≤ 7302250) (hI : LI Λ σ) (hE : ∀ Λ' σ', LI Λ' σ' → LW p l e s m below meth c b k n 1460 ls [] 669 Λ' σ') : LW p l e s m below meth c b k n 797 ls [] 669 Λ σ := by
  refine L_al C0 dl_797 rfl (lv_at hl 2 rfl) ?_
  refine L_arg 1 C0 hL hi hl dl_798 dl_799 dl_800 dl_801 dl_802 rfl (by decide) ?_
  refine L_arg 2 C0 hL hi hl dl_803 dl_804 dl_805 dl_806 dl_807 rfl (by decide) ?_
  refine L_arg 3 C0 hL hi hl dl_808 dl_809 dl_810 dl_811 dl_812 rfl (by decide) ?_
  refine L_arg 4 C0 hL hi hl dl_813 dl_814 dl_815 dl_816 dl_817 rfl (by decide) ?_
  refine L_callI (t := 0) (d := 20) (As := [(0, (xs (i + ((1 : Nat) : Int)).toNat).toInt), (0, (xs (i + ((2 : Nat) : Int)).toNat).toInt), (0, (xs (i + ((3 : Nat) : Int)).toNat).toInt), (0, (xs (i + ((4 : Nat) : Int)).toNat).toInt)]) (rest := []) C0 hl dl_818 ok_mX11_fact ml_L_79 rfl (by decide) (by decide) hk (by decide) rfl (okl [(xs (i + ((1 : Nat) : Int)).toNat), (xs (i + ((2 : Nat) : Int)).toNat), (xs (i + ((3 : Nat) : Int)).toNat), (xs (i + ((4 : Nat) : Int)).toNat)]) kX11 hI.1.1 (G_fact hI.1 hI.2.1 (by decide) fun v1 σ1 hG1 => ?_)
  have hI1 := hI.cls hG1
  refine L_pop C0 dl_821 ?_
  refine L_al C0 dl_822 rfl (lv_at hl 1 rfl) ?_
  refine L_arg 1 C0 hL hi hl dl_823 dl_824 dl_825 dl_826 dl_827 rfl (by decide) ?_
  refine L_arg 2 C0 hL hi hl dl_828 dl_829 dl_830 dl_831 dl_832 rfl (by decide) ?_
  refine L_arg 3 C0 hL hi hl dl_833 dl_834 dl_835 dl_836 dl_837 rfl (by decide) ?_
  refine L_arg 4 C0 hL hi hl dl_838 dl_839 dl_840 dl_841 dl_842 rfl (by decide) ?_
  refine L_callI (t := 646) (d := 20) (As := [(0, (xs (i + ((1 : Nat) : Int)).toNat).toInt), (0, (xs (i + ((2 : Nat) : Int)).toNat).toInt), (0, (xs (i + ((3 : Nat) : Int)).toNat).toInt), (0, (xs (i + ((4 : Nat) : Int)).toNat).toInt)]) (rest := []) C0 hl dl_843 ok_mX12_fact ml_L_82 rfl (by decide) (by decide) hk (by decide) rfl (okl [(xs (i + ((1 : Nat) : Int)).toNat), (xs (i + ((2 : Nat) : Int)).toNat), (xs (i + ((3 : Nat) : Int)).toNat), (xs (i + ((4 : Nat) : Int)).toNat)]) kX12 (show LI Λ _ from hI1).2.2.1.1 (Q_fact hI1.2.2.1 hI1.2.2.2.1 (by decide) fun v2 σ2 hR2 => ?_)
  refine L_pop C0 dl_846 ?_
  exact L_goto C0 dl_847 rfl (hE _ _ (hI1.ref hR2))
theorem ca_16 {p : Program} {l : Launch} {e : Env} {s : State} {m : MethodId} {below : List Frame} {meth : Method} {c : Code} {b k n L : Nat} {xs : Nat → Int32} {ls : Array Slot} {Λ : Lay} {σ : Mem} {i : Int} (C0 : lw_At p s m meth c b L xs) (hL : L ≤ 3072) (hi : 0 ≤ i ∧ i + 6 ≤ L) (hl : lv_has ls 4 [(3, .int (Int32.ofInt i)), (2, .ref (s.heap.size + 646)), (1, .ref (s.heap.size + 0)), (0, .ref b)]) (hk : k ≤ 600000 ∧ n ≤ 7302250) (hI : LI Λ σ) (hE : ∀ Λ' σ', LI Λ' σ' → LW p l e s m below meth c b k n 1460 ls [] 669 Λ' σ') : LW p l e s m below meth c b k n 850 ls [] 669 Λ σ := by
  refine L_al C0 dl_850 rfl (lv_at hl 2 rfl) ?_
  refine L_arg 1 C0 hL hi hl dl_851 dl_852 dl_853 dl_854 dl_855 rfl (by decide) ?_
  refine L_arg 2 C0 hL hi hl dl_856 dl_857 dl_858 dl_859 dl_860 rfl (by decide) ?_
  refine L_arg 3 C0 hL hi hl dl_861 dl_862 dl_863 dl_864 dl_865 rfl (by decide) ?_
  refine L_arg 4 C0 hL hi hl dl_866 dl_867 dl_868 dl_869 dl_870 rfl (by decide) ?_
  refine L_callI (t := 0) (d := 20) (As := [(0, (xs (i + ((1 : Nat) : Int)).toNat).toInt), (0, (xs (i + ((2 : Nat) : Int)).toNat).toInt), (0, (xs (i + ((3 : Nat) : Int)).toNat).toInt), (0, (xs (i + ((4 : Nat) : Int)).toNat).toInt)]) (rest := []) C0 hl dl_871 ok_mX11_place ml_L_83 rfl (by decide) (by decide) hk (by decide) rfl (okl [(xs (i + ((1 : Nat) : Int)).toNat), (xs (i + ((2 : Nat) : Int)).toNat), (xs (i + ((3 : Nat) : Int)).toNat), (xs (i + ((4 : Nat) : Int)).toNat)]) kX11 hI.1.1 (G_place hI.1 hI.2.1 (by decide) fun σ1 hG1 => ?_)
  have hI1 := hI.cls hG1
  refine L_pop C0 dl_874 ?_
  refine L_al C0 dl_875 rfl (lv_at hl 1 rfl) ?_
  refine L_arg 1 C0 hL hi hl dl_876 dl_877 dl_878 dl_879 dl_880 rfl (by decide) ?_
  refine L_arg 2 C0 hL hi hl dl_881 dl_882 dl_883 dl_884 dl_885 rfl (by decide) ?_
  refine L_arg 3 C0 hL hi hl dl_886 dl_887 dl_888 dl_889 dl_890 rfl (by decide) ?_
  refine L_arg 4 C0 hL hi hl dl_891 dl_892 dl_893 dl_894 dl_895 rfl (by decide) ?_
  refine L_callI (t := 646) (d := 20) (As := [(0, (xs (i + ((1 : Nat) : Int)).toNat).toInt), (0, (xs (i + ((2 : Nat) : Int)).toNat).toInt), (0, (xs (i + ((3 : Nat) : Int)).toNat).toInt), (0, (xs (i + ((4 : Nat) : Int)).toNat).toInt)]) (rest := []) C0 hl dl_896 ok_mX12_place ml_L_86 rfl (by decide) (by decide) hk (by decide) rfl (okl [(xs (i + ((1 : Nat) : Int)).toNat), (xs (i + ((2 : Nat) : Int)).toNat), (xs (i + ((3 : Nat) : Int)).toNat), (xs (i + ((4 : Nat) : Int)).toNat)]) kX12 (show LI Λ _ from hI1).2.2.1.1 (Q_place hI1.2.2.1 hI1.2.2.2.1 (by decide) fun v2 σ2 hR2 _ => ?_)
  refine L_pop C0 dl_899 ?_
  exact L_goto C0 dl_900 rfl (hE _ _ (hI1.ref hR2))
