/-! the law, case by case -/
theorem lc_0 {l : Launch} {p : Program} {e : Env} {s : State} {m : MethodId} {below : List Frame} {meth : Method} {c : Code} {b L : Nat} {xs : Nat → Int32} {Gc Gm : hp_G} {i : Nat} {C M : hp_H} (X : lx p s m meth c b L xs Gc Gm) (hi : i + 7 ≤ L) (h : iv C M) (rC : hp_in C) (rM : hp_in M) (kk : ∀ C2 M2, iv C2 M2 → hp_in C2 → hp_in M2 → lr l p e s m below meth c b Gc Gm 1538 i [] C2 M2) : lr l p e s m below meth c b Gc Gm 212 i [] C M := by
  obtain ⟨x, C2, M2, e1, e2, h2⟩ := op_row h (lX xs (i + 1)) (lX xs (i + 2)) (lX xs (i + 3)) 
  refine l_aload1 X dL_law_212 ?_
  refine l_arg X 1 hi (by decide) rfl dL_law_213 dL_law_214 dL_law_215 dL_law_216 dL_law_217 ?_
  refine l_arg X 2 hi (by decide) rfl dL_law_218 dL_law_219 dL_law_220 dL_law_221 dL_law_222 ?_
  refine l_arg X 3 hi (by decide) rfl dL_law_223 dL_law_224 dL_law_225 dL_law_226 dL_law_227 ?_
  refine l_callC X (ok_X7_row X.2.2.1 _ _ _ C (hp_rt _) (hp_rt _) (hp_rt _) rC (x, C2) e1) cal_X7_row rfl ins_X7_row sel_X7_row wm_260 (by decide) (by decide) rfl rfl (Nat.le_of_ble_eq_true rfl) dL_law_228 (fun hz => ?_)
  refine l_aload2 X dL_law_231 ?_
  refine l_arg X 1 hi (by decide) rfl dL_law_232 dL_law_233 dL_law_234 dL_law_235 dL_law_236 ?_
  refine l_arg X 2 hi (by decide) rfl dL_law_237 dL_law_238 dL_law_239 dL_law_240 dL_law_241 ?_
  refine l_arg X 3 hi (by decide) rfl dL_law_242 dL_law_243 dL_law_244 dL_law_245 dL_law_246 ?_
  refine l_callM X (ok_X8_row X.2.2.2.1 _ _ _ M (hp_rt _) (hp_rt _) (hp_rt _) rM (x, M2) e2) cal_X8_row rfl ins_X8_row sel_X8_row wm_937 (by decide) (by decide) rfl rfl (Nat.le_of_ble_eq_true rfl) dL_law_247 (fun hz2 => ?_)
  exact l_eq X dL_law_250 (by decide) (kk C2 M2 h2 hz.2 hz2.2)
theorem lc_1 {l : Launch} {p : Program} {e : Env} {s : State} {m : MethodId} {below : List Frame} {meth : Method} {c : Code} {b L : Nat} {xs : Nat → Int32} {Gc Gm : hp_G} {i : Nat} {C M : hp_H} (X : lx p s m meth c b L xs Gc Gm) (hi : i + 7 ≤ L) (h : iv C M) (rC : hp_in C) (rM : hp_in M) (kk : ∀ C2 M2, iv C2 M2 → hp_in C2 → hp_in M2 → lr l p e s m below meth c b Gc Gm 1538 i [] C2 M2) : lr l p e s m below meth c b Gc Gm 255 i [] C M := by
  obtain ⟨x, C2, M2, e1, e2, h2⟩ := op_set h (lX xs (i + 1)) (lX xs (i + 2)) (lX xs (i + 3)) (hp_rt _)
  refine l_aload1 X dL_law_255 ?_
  refine l_arg X 1 hi (by decide) rfl dL_law_256 dL_law_257 dL_law_258 dL_law_259 dL_law_260 ?_
  refine l_arg X 2 hi (by decide) rfl dL_law_261 dL_law_262 dL_law_263 dL_law_264 dL_law_265 ?_
  refine l_arg X 3 hi (by decide) rfl dL_law_266 dL_law_267 dL_law_268 dL_law_269 dL_law_270 ?_
  refine l_callC X (ok_X7_set X.2.2.1 _ _ _ C (hp_rt _) (hp_rt _) (hp_rt _) rC (x, C2) e1) cal_X7_set rfl ins_X7_set sel_X7_set wm_284 (by decide) (by decide) rfl rfl (Nat.le_of_ble_eq_true rfl) dL_law_271 (fun hz => ?_)
  refine l_aload2 X dL_law_274 ?_
  refine l_arg X 1 hi (by decide) rfl dL_law_275 dL_law_276 dL_law_277 dL_law_278 dL_law_279 ?_
  refine l_arg X 2 hi (by decide) rfl dL_law_280 dL_law_281 dL_law_282 dL_law_283 dL_law_284 ?_
  refine l_arg X 3 hi (by decide) rfl dL_law_285 dL_law_286 dL_law_287 dL_law_288 dL_law_289 ?_
  refine l_callM X (ok_X8_set X.2.2.2.1 _ _ _ M (hp_rt _) (hp_rt _) (hp_rt _) rM (x, M2) e2) cal_X8_set rfl ins_X8_set sel_X8_set wm_955 (by decide) (by decide) rfl rfl (Nat.le_of_ble_eq_true rfl) dL_law_290 (fun hz2 => ?_)
  exact l_eq X dL_law_293 (by decide) (kk C2 M2 h2 hz.2 hz2.2)
theorem lc_2 {l : Launch} {p : Program} {e : Env} {s : State} {m : MethodId} {below : List Frame} {meth : Method} {c : Code} {b L : Nat} {xs : Nat → Int32} {Gc Gm : hp_G} {i : Nat} {C M : hp_H} (X : lx p s m meth c b L xs Gc Gm) (hi : i + 7 ≤ L) (h : iv C M) (rC : hp_in C) (rM : hp_in M) (kk : ∀ C2 M2, iv C2 M2 → hp_in C2 → hp_in M2 → lr l p e s m below meth c b Gc Gm 1538 i [] C2 M2) : lr l p e s m below meth c b Gc Gm 298 i [] C M := by
  obtain ⟨x, C2, M2, e1, e2, h2⟩ := op_copy h (lX xs (i + 1)) (lX xs (i + 2)) (lX xs (i + 3)) (lX xs (i + 4)) (lX xs (i + 5)) (hp_rt _) (hp_rt _) (hp_rt _)
  refine l_aload1 X dL_law_298 ?_
  refine l_arg X 1 hi (by decide) rfl dL_law_299 dL_law_300 dL_law_301 dL_law_302 dL_law_303 ?_
  refine l_arg X 2 hi (by decide) rfl dL_law_304 dL_law_305 dL_law_306 dL_law_307 dL_law_308 ?_
  refine l_arg X 3 hi (by decide) rfl dL_law_309 dL_law_310 dL_law_311 dL_law_312 dL_law_313 ?_
  refine l_arg X 4 hi (by decide) rfl dL_law_314 dL_law_315 dL_law_316 dL_law_317 dL_law_318 ?_
  refine l_arg X 5 hi (by decide) rfl dL_law_319 dL_law_320 dL_law_321 dL_law_322 dL_law_323 ?_
  refine l_callC X (ok_X7_copy X.2.2.1 _ _ _ _ _ C (hp_rt _) (hp_rt _) (hp_rt _) (hp_rt _) (hp_rt _) rC (x, C2) e1) cal_X7_copy rfl ins_X7_copy sel_X7_copy wm_307 (by decide) (by decide) rfl rfl (Nat.le_of_ble_eq_true rfl) dL_law_324 (fun hz => ?_)
  refine l_aload2 X dL_law_327 ?_
  refine l_arg X 1 hi (by decide) rfl dL_law_328 dL_law_329 dL_law_330 dL_law_331 dL_law_332 ?_
  refine l_arg X 2 hi (by decide) rfl dL_law_333 dL_law_334 dL_law_335 dL_law_336 dL_law_337 ?_
  refine l_arg X 3 hi (by decide) rfl dL_law_338 dL_law_339 dL_law_340 dL_law_341 dL_law_342 ?_
  refine l_arg X 4 hi (by decide) rfl dL_law_343 dL_law_344 dL_law_345 dL_law_346 dL_law_347 ?_
  refine l_arg X 5 hi (by decide) rfl dL_law_348 dL_law_349 dL_law_350 dL_law_351 dL_law_352 ?_
  refine l_callM X (ok_X8_copy X.2.2.2.1 _ _ _ _ _ M (hp_rt _) (hp_rt _) (hp_rt _) (hp_rt _) (hp_rt _) rM (x, M2) e2) cal_X8_copy rfl ins_X8_copy sel_X8_copy wm_959 (by decide) (by decide) rfl rfl (Nat.le_of_ble_eq_true rfl) dL_law_353 (fun hz2 => ?_)
  exact l_eq X dL_law_356 (by decide) (kk C2 M2 h2 hz.2 hz2.2)
theorem lc_3 {l : Launch} {p : Program} {e : Env} {s : State} {m : MethodId} {below : List Frame} {meth : Method} {c : Code} {b L : Nat} {xs : Nat → Int32} {Gc Gm : hp_G} {i : Nat} {C M : hp_H} (X : lx p s m meth c b L xs Gc Gm) (hi : i + 7 ≤ L) (h : iv C M) (rC : hp_in C) (rM : hp_in M) (kk : ∀ C2 M2, iv C2 M2 → hp_in C2 → hp_in M2 → lr l p e s m below meth c b Gc Gm 1538 i [] C2 M2) : lr l p e s m below meth c b Gc Gm 361 i [] C M := by
  obtain ⟨x, C2, M2, e1, e2, h2⟩ := op_drop h (lX xs (i + 1)) 
  refine l_aload1 X dL_law_361 ?_
  refine l_arg X 1 hi (by decide) rfl dL_law_362 dL_law_363 dL_law_364 dL_law_365 dL_law_366 ?_
  refine l_callC X (ok_X7_drop X.2.2.1 _ C (hp_rt _) rC (x, C2) e1) cal_X7_drop rfl ins_X7_drop sel_X7_drop wm_324 (by decide) (by decide) rfl rfl (Nat.le_of_ble_eq_true rfl) dL_law_367 (fun hz => ?_)
  refine l_aload2 X dL_law_370 ?_
  refine l_arg X 1 hi (by decide) rfl dL_law_371 dL_law_372 dL_law_373 dL_law_374 dL_law_375 ?_
  refine l_callM X (ok_X8_drop X.2.2.2.1 _ M (hp_rt _) rM (x, M2) e2) cal_X8_drop rfl ins_X8_drop sel_X8_drop wm_963 (by decide) (by decide) rfl rfl (Nat.le_of_ble_eq_true rfl) dL_law_376 (fun hz2 => ?_)
  exact l_eq X dL_law_379 (by decide) (kk C2 M2 h2 hz.2 hz2.2)
theorem lc_4 {l : Launch} {p : Program} {e : Env} {s : State} {m : MethodId} {below : List Frame} {meth : Method} {c : Code} {b L : Nat} {xs : Nat → Int32} {Gc Gm : hp_G} {i : Nat} {C M : hp_H} (X : lx p s m meth c b L xs Gc Gm) (hi : i + 7 ≤ L) (h : iv C M) (rC : hp_in C) (rM : hp_in M) (kk : ∀ C2 M2, iv C2 M2 → hp_in C2 → hp_in M2 → lr l p e s m below meth c b Gc Gm 1538 i [] C2 M2) : lr l p e s m below meth c b Gc Gm 384 i [] C M := by
  obtain ⟨x, C2, M2, e1, e2, h2⟩ := op_feed h (lX xs (i + 1)) 
  refine l_aload1 X dL_law_384 ?_
  refine l_arg X 1 hi (by decide) rfl dL_law_385 dL_law_386 dL_law_387 dL_law_388 dL_law_389 ?_
  refine l_callC X (ok_X7_feed X.2.2.1 _ C (hp_rt _) rC (x, C2) e1) cal_X7_feed rfl ins_X7_feed sel_X7_feed wm_336 (by decide) (by decide) rfl rfl (Nat.le_of_ble_eq_true rfl) dL_law_390 (fun hz => ?_)
  refine l_aload2 X dL_law_393 ?_
  refine l_arg X 1 hi (by decide) rfl dL_law_394 dL_law_395 dL_law_396 dL_law_397 dL_law_398 ?_
  refine l_callM X (ok_X8_feed X.2.2.2.1 _ M (hp_rt _) rM (x, M2) e2) cal_X8_feed rfl ins_X8_feed sel_X8_feed wm_967 (by decide) (by decide) rfl rfl (Nat.le_of_ble_eq_true rfl) dL_law_399 (fun hz2 => ?_)
  exact l_eq X dL_law_402 (by decide) (kk C2 M2 h2 hz.2 hz2.2)
theorem lc_5 {l : Launch} {p : Program} {e : Env} {s : State} {m : MethodId} {below : List Frame} {meth : Method} {c : Code} {b L : Nat} {xs : Nat → Int32} {Gc Gm : hp_G} {i : Nat} {C M : hp_H} (X : lx p s m meth c b L xs Gc Gm) (hi : i + 7 ≤ L) (h : iv C M) (rC : hp_in C) (rM : hp_in M) (kk : ∀ C2 M2, iv C2 M2 → hp_in C2 → hp_in M2 → lr l p e s m below meth c b Gc Gm 1538 i [] C2 M2) : lr l p e s m below meth c b Gc Gm 407 i [] C M := by
  obtain ⟨x, C2, M2, e1, e2, h2⟩ := op_town h  
  refine l_aload1 X dL_law_407 ?_
  refine l_callC X (ok_X7_town X.2.2.1  C  rC (x, C2) e1) cal_X7_town rfl ins_X7_town sel_X7_town wm_349 (by decide) (by decide) rfl rfl (Nat.le_of_ble_eq_true rfl) dL_law_408 (fun hz => ?_)
  refine l_aload2 X dL_law_411 ?_
  refine l_callM X (ok_X8_town X.2.2.2.1  M  rM (x, M2) e2) cal_X8_town rfl ins_X8_town sel_X8_town wm_977 (by decide) (by decide) rfl rfl (Nat.le_of_ble_eq_true rfl) dL_law_412 (fun hz2 => ?_)
  exact l_eq X dL_law_415 (by decide) (kk C2 M2 h2 hz.2 hz2.2)
theorem lc_6 {l : Launch} {p : Program} {e : Env} {s : State} {m : MethodId} {below : List Frame} {meth : Method} {c : Code} {b L : Nat} {xs : Nat → Int32} {Gc Gm : hp_G} {i : Nat} {C M : hp_H} (X : lx p s m meth c b L xs Gc Gm) (hi : i + 7 ≤ L) (h : iv C M) (rC : hp_in C) (rM : hp_in M) (kk : ∀ C2 M2, iv C2 M2 → hp_in C2 → hp_in M2 → lr l p e s m below meth c b Gc Gm 1538 i [] C2 M2) : lr l p e s m below meth c b Gc Gm 420 i [] C M := by
  obtain ⟨x, M2, e1, e2, h2⟩ := op_fault h  
  refine l_aload1 X dL_law_420 ?_
  refine l_callC X (ok_X7_fault X.2.2.1  C  rC x e1) cal_X7_fault rfl ins_X7_fault sel_X7_fault wm_417 (by decide) (by decide) rfl rfl (Nat.le_of_ble_eq_true rfl) dL_law_421 (fun hz => ?_)
  refine l_aload2 X dL_law_424 ?_
  refine l_callM X (ok_X8_fault X.2.2.2.1  M  rM (x, M2) e2) cal_X8_fault rfl ins_X8_fault sel_X8_fault wm_973 (by decide) (by decide) rfl rfl (Nat.le_of_ble_eq_true rfl) dL_law_425 (fun hz2 => ?_)
  exact l_eq X dL_law_428 (by decide) (kk C M2 h2 rC hz2.2)
theorem lc_7 {l : Launch} {p : Program} {e : Env} {s : State} {m : MethodId} {below : List Frame} {meth : Method} {c : Code} {b L : Nat} {xs : Nat → Int32} {Gc Gm : hp_G} {i : Nat} {C M : hp_H} (X : lx p s m meth c b L xs Gc Gm) (hi : i + 7 ≤ L) (h : iv C M) (rC : hp_in C) (rM : hp_in M) (kk : ∀ C2 M2, iv C2 M2 → hp_in C2 → hp_in M2 → lr l p e s m below meth c b Gc Gm 1538 i [] C2 M2) : lr l p e s m below meth c b Gc Gm 433 i [] C M := by
  obtain ⟨x, C2, M2, e1, e2, h2⟩ := op_undo h  
  refine l_aload1 X dL_law_433 ?_
  refine l_callC X (ok_X7_undo X.2.2.1  C  rC (x, C2) e1) cal_X7_undo rfl ins_X7_undo sel_X7_undo wm_421 (by decide) (by decide) rfl rfl (Nat.le_of_ble_eq_true rfl) dL_law_434 (fun hz => ?_)
  refine l_aload2 X dL_law_437 ?_
  refine l_callM X (ok_X8_undo X.2.2.2.1  M  rM (x, M2) e2) cal_X8_undo rfl ins_X8_undo sel_X8_undo wm_1109 (by decide) (by decide) rfl rfl (Nat.le_of_ble_eq_true rfl) dL_law_438 (fun hz2 => ?_)
  exact l_eq X dL_law_441 (by decide) (kk C2 M2 h2 hz.2 hz2.2)
theorem lc_8 {l : Launch} {p : Program} {e : Env} {s : State} {m : MethodId} {below : List Frame} {meth : Method} {c : Code} {b L : Nat} {xs : Nat → Int32} {Gc Gm : hp_G} {i : Nat} {C M : hp_H} (X : lx p s m meth c b L xs Gc Gm) (hi : i + 7 ≤ L) (h : iv C M) (rC : hp_in C) (rM : hp_in M) (kk : ∀ C2 M2, iv C2 M2 → hp_in C2 → hp_in M2 → lr l p e s m below meth c b Gc Gm 1538 i [] C2 M2) : lr l p e s m below meth c b Gc Gm 446 i [] C M := by
  obtain ⟨x, C2, M2, e1, e2, h2⟩ := op_hours h (lX xs (i + 1)) 
  refine l_aload1 X dL_law_446 ?_
  refine l_arg X 1 hi (by decide) rfl dL_law_447 dL_law_448 dL_law_449 dL_law_450 dL_law_451 ?_
  refine l_callC X (ok_X7_hours X.2.2.1 _ C (hp_rt _) rC (x, C2) e1) cal_X7_hours rfl ins_X7_hours sel_X7_hours wm_435 (by decide) (by decide) rfl rfl (Nat.le_of_ble_eq_true rfl) dL_law_452 (fun hz => ?_)
  refine l_aload2 X dL_law_455 ?_
  refine l_arg X 1 hi (by decide) rfl dL_law_456 dL_law_457 dL_law_458 dL_law_459 dL_law_460 ?_
  refine l_callM X (ok_X8_hours X.2.2.2.1 _ M (hp_rt _) rM (x, M2) e2) cal_X8_hours rfl ins_X8_hours sel_X8_hours wm_1030 (by decide) (by decide) rfl rfl (Nat.le_of_ble_eq_true rfl) dL_law_461 (fun hz2 => ?_)
  exact l_eq X dL_law_464 (by decide) (kk C2 M2 h2 hz.2 hz2.2)
theorem lc_9 {l : Launch} {p : Program} {e : Env} {s : State} {m : MethodId} {below : List Frame} {meth : Method} {c : Code} {b L : Nat} {xs : Nat → Int32} {Gc Gm : hp_G} {i : Nat} {C M : hp_H} (X : lx p s m meth c b L xs Gc Gm) (hi : i + 7 ≤ L) (h : iv C M) (rC : hp_in C) (rM : hp_in M) (kk : ∀ C2 M2, iv C2 M2 → hp_in C2 → hp_in M2 → lr l p e s m below meth c b Gc Gm 1538 i [] C2 M2) : lr l p e s m below meth c b Gc Gm 469 i [] C M := by
  obtain ⟨x, C2, M2, e1, e2, h2⟩ := op_post h (lX xs (i + 1)) (lX xs (i + 2)) (lX xs (i + 3)) 
  refine l_aload1 X dL_law_469 ?_
  refine l_arg X 1 hi (by decide) rfl dL_law_470 dL_law_471 dL_law_472 dL_law_473 dL_law_474 ?_
  refine l_arg X 2 hi (by decide) rfl dL_law_475 dL_law_476 dL_law_477 dL_law_478 dL_law_479 ?_
  refine l_arg X 3 hi (by decide) rfl dL_law_480 dL_law_481 dL_law_482 dL_law_483 dL_law_484 ?_
  refine l_callC X (ok_X7_post X.2.2.1 _ _ _ C (hp_rt _) (hp_rt _) (hp_rt _) rC (x, C2) e1) cal_X7_post rfl ins_X7_post sel_X7_post wm_498 (by decide) (by decide) rfl rfl (Nat.le_of_ble_eq_true rfl) dL_law_485 (fun hz => ?_)
  refine l_aload2 X dL_law_488 ?_
  refine l_arg X 1 hi (by decide) rfl dL_law_489 dL_law_490 dL_law_491 dL_law_492 dL_law_493 ?_
  refine l_arg X 2 hi (by decide) rfl dL_law_494 dL_law_495 dL_law_496 dL_law_497 dL_law_498 ?_
  refine l_arg X 3 hi (by decide) rfl dL_law_499 dL_law_500 dL_law_501 dL_law_502 dL_law_503 ?_
  refine l_callM X (ok_X8_post X.2.2.2.1 _ _ _ M (hp_rt _) (hp_rt _) (hp_rt _) rM (x, M2) e2) cal_X8_post rfl ins_X8_post sel_X8_post wm_1073 (by decide) (by decide) rfl rfl (Nat.le_of_ble_eq_true rfl) dL_law_504 (fun hz2 => ?_)
  exact l_eq X dL_law_507 (by decide) (kk C2 M2 h2 hz.2 hz2.2)
theorem lc_10 {l : Launch} {p : Program} {e : Env} {s : State} {m : MethodId} {below : List Frame} {meth : Method} {c : Code} {b L : Nat} {xs : Nat → Int32} {Gc Gm : hp_G} {i : Nat} {C M : hp_H} (X : lx p s m meth c b L xs Gc Gm) (hi : i + 7 ≤ L) (h : iv C M) (rC : hp_in C) (rM : hp_in M) (kk : ∀ C2 M2, iv C2 M2 → hp_in C2 → hp_in M2 → lr l p e s m below meth c b Gc Gm 1538 i [] C2 M2) : lr l p e s m below meth c b Gc Gm 512 i [] C M := by
  obtain ⟨x, C2, M2, e1, e2, h2⟩ := op_callBack h (lX xs (i + 1)) 
  refine l_aload1 X dL_law_512 ?_
  refine l_arg X 1 hi (by decide) rfl dL_law_513 dL_law_514 dL_law_515 dL_law_516 dL_law_517 ?_
  refine l_callC X (ok_X7_callBack X.2.2.1 _ C (hp_rt _) rC (x, C2) e1) cal_X7_callBack rfl ins_X7_callBack sel_X7_callBack wm_514 (by decide) (by decide) rfl rfl (Nat.le_of_ble_eq_true rfl) dL_law_518 (fun hz => ?_)
  refine l_aload2 X dL_law_521 ?_
  refine l_arg X 1 hi (by decide) rfl dL_law_522 dL_law_523 dL_law_524 dL_law_525 dL_law_526 ?_
  refine l_callM X (ok_X8_callBack X.2.2.2.1 _ M (hp_rt _) rM (x, M2) e2) cal_X8_callBack rfl ins_X8_callBack sel_X8_callBack wm_1092 (by decide) (by decide) rfl rfl (Nat.le_of_ble_eq_true rfl) dL_law_527 (fun hz2 => ?_)
  exact l_eq X dL_law_530 (by decide) (kk C2 M2 h2 hz.2 hz2.2)
theorem lc_11 {l : Launch} {p : Program} {e : Env} {s : State} {m : MethodId} {below : List Frame} {meth : Method} {c : Code} {b L : Nat} {xs : Nat → Int32} {Gc Gm : hp_G} {i : Nat} {C M : hp_H} (X : lx p s m meth c b L xs Gc Gm) (hi : i + 7 ≤ L) (h : iv C M) (rC : hp_in C) (rM : hp_in M) (kk : ∀ C2 M2, iv C2 M2 → hp_in C2 → hp_in M2 → lr l p e s m below meth c b Gc Gm 1538 i [] C2 M2) : lr l p e s m below meth c b Gc Gm 535 i [] C M := by
  obtain ⟨x, C2, M2, e1, e2, h2⟩ := op_begin h (lX xs (i + 1)) (lX xs (i + 2)) 
  refine l_aload1 X dL_law_535 ?_
  refine l_arg X 1 hi (by decide) rfl dL_law_536 dL_law_537 dL_law_538 dL_law_539 dL_law_540 ?_
  refine l_arg X 2 hi (by decide) rfl dL_law_541 dL_law_542 dL_law_543 dL_law_544 dL_law_545 ?_
  refine l_callC X (ok_X7_begin X.2.2.1 _ _ C (hp_rt _) (hp_rt _) rC (x, C2) e1) cal_X7_begin rfl ins_X7_begin sel_X7_begin wm_526 (by decide) (by decide) rfl rfl (Nat.le_of_ble_eq_true rfl) dL_law_546 (fun hz => ?_)
  refine l_aload2 X dL_law_549 ?_
  refine l_arg X 1 hi (by decide) rfl dL_law_550 dL_law_551 dL_law_552 dL_law_553 dL_law_554 ?_
  refine l_arg X 2 hi (by decide) rfl dL_law_555 dL_law_556 dL_law_557 dL_law_558 dL_law_559 ?_
  refine l_callM X (ok_X8_begin X.2.2.2.1 _ _ M (hp_rt _) (hp_rt _) rM (x, M2) e2) cal_X8_begin rfl ins_X8_begin sel_X8_begin wm_1096 (by decide) (by decide) rfl rfl (Nat.le_of_ble_eq_true rfl) dL_law_560 (fun hz2 => ?_)
  exact l_eq X dL_law_563 (by decide) (kk C2 M2 h2 hz.2 hz2.2)
theorem lc_12 {l : Launch} {p : Program} {e : Env} {s : State} {m : MethodId} {below : List Frame} {meth : Method} {c : Code} {b L : Nat} {xs : Nat → Int32} {Gc Gm : hp_G} {i : Nat} {C M : hp_H} (X : lx p s m meth c b L xs Gc Gm) (hi : i + 7 ≤ L) (h : iv C M) (rC : hp_in C) (rM : hp_in M) (kk : ∀ C2 M2, iv C2 M2 → hp_in C2 → hp_in M2 → lr l p e s m below meth c b Gc Gm 1538 i [] C2 M2) : lr l p e s m below meth c b Gc Gm 568 i [] C M := by
  obtain ⟨x, C2, M2, e1, e2, h2⟩ := op_stay h (lX xs (i + 1)) (lX xs (i + 2)) 
  refine l_aload1 X dL_law_568 ?_
  refine l_arg X 1 hi (by decide) rfl dL_law_569 dL_law_570 dL_law_571 dL_law_572 dL_law_573 ?_
  refine l_arg X 2 hi (by decide) rfl dL_law_574 dL_law_575 dL_law_576 dL_law_577 dL_law_578 ?_
  refine l_callC X (ok_X7_stay X.2.2.1 _ _ C (hp_rt _) (hp_rt _) rC (x, C2) e1) cal_X7_stay rfl ins_X7_stay sel_X7_stay wm_534 (by decide) (by decide) rfl rfl (Nat.le_of_ble_eq_true rfl) dL_law_579 (fun hz => ?_)
  refine l_aload2 X dL_law_582 ?_
  refine l_arg X 1 hi (by decide) rfl dL_law_583 dL_law_584 dL_law_585 dL_law_586 dL_law_587 ?_
  refine l_arg X 2 hi (by decide) rfl dL_law_588 dL_law_589 dL_law_590 dL_law_591 dL_law_592 ?_
  refine l_callM X (ok_X8_stay X.2.2.2.1 _ _ M (hp_rt _) (hp_rt _) rM (x, M2) e2) cal_X8_stay rfl ins_X8_stay sel_X8_stay wm_1105 (by decide) (by decide) rfl rfl (Nat.le_of_ble_eq_true rfl) dL_law_593 (fun hz2 => ?_)
  exact l_eq X dL_law_596 (by decide) (kk C2 M2 h2 hz.2 hz2.2)
theorem lc_13 {l : Launch} {p : Program} {e : Env} {s : State} {m : MethodId} {below : List Frame} {meth : Method} {c : Code} {b L : Nat} {xs : Nat → Int32} {Gc Gm : hp_G} {i : Nat} {C M : hp_H} (X : lx p s m meth c b L xs Gc Gm) (hi : i + 7 ≤ L) (h : iv C M) (rC : hp_in C) (rM : hp_in M) (kk : ∀ C2 M2, iv C2 M2 → hp_in C2 → hp_in M2 → lr l p e s m below meth c b Gc Gm 1538 i [] C2 M2) : lr l p e s m below meth c b Gc Gm 601 i [] C M := by
  obtain ⟨x, M2, e1, e2, h2⟩ := op_person h (lX xs (i + 1)) (lX xs (i + 2)) 
  refine l_aload1 X dL_law_601 ?_
  refine l_arg X 1 hi (by decide) rfl dL_law_602 dL_law_603 dL_law_604 dL_law_605 dL_law_606 ?_
  refine l_arg X 2 hi (by decide) rfl dL_law_607 dL_law_608 dL_law_609 dL_law_610 dL_law_611 ?_
  refine l_callC X (ok_X7_person X.2.2.1 _ _ C (hp_rt _) (hp_rt _) rC x e1) cal_X7_person rfl ins_X7_person sel_X7_person wm_542 (by decide) (by decide) rfl rfl (Nat.le_of_ble_eq_true rfl) dL_law_612 (fun hz => ?_)
  refine l_aload2 X dL_law_615 ?_
  refine l_arg X 1 hi (by decide) rfl dL_law_616 dL_law_617 dL_law_618 dL_law_619 dL_law_620 ?_
  refine l_arg X 2 hi (by decide) rfl dL_law_621 dL_law_622 dL_law_623 dL_law_624 dL_law_625 ?_
  refine l_callM X (ok_X8_person X.2.2.2.1 _ _ M (hp_rt _) (hp_rt _) rM (x, M2) e2) cal_X8_person rfl ins_X8_person sel_X8_person wm_1113 (by decide) (by decide) rfl rfl (Nat.le_of_ble_eq_true rfl) dL_law_626 (fun hz2 => ?_)
  exact l_eq X dL_law_629 (by decide) (kk C M2 h2 rC hz2.2)
theorem lc_14 {l : Launch} {p : Program} {e : Env} {s : State} {m : MethodId} {below : List Frame} {meth : Method} {c : Code} {b L : Nat} {xs : Nat → Int32} {Gc Gm : hp_G} {i : Nat} {C M : hp_H} (X : lx p s m meth c b L xs Gc Gm) (hi : i + 7 ≤ L) (h : iv C M) (rC : hp_in C) (rM : hp_in M) (kk : ∀ C2 M2, iv C2 M2 → hp_in C2 → hp_in M2 → lr l p e s m below meth c b Gc Gm 1538 i [] C2 M2) : lr l p e s m below meth c b Gc Gm 634 i [] C M := by
  obtain ⟨x, C2, M2, e1, e2, h2⟩ := op_letter h (lX xs (i + 1)) (lX xs (i + 2)) 
  refine l_aload1 X dL_law_634 ?_
  refine l_arg X 1 hi (by decide) rfl dL_law_635 dL_law_636 dL_law_637 dL_law_638 dL_law_639 ?_
  refine l_arg X 2 hi (by decide) rfl dL_law_640 dL_law_641 dL_law_642 dL_law_643 dL_law_644 ?_
  refine l_callC X (ok_X7_letter X.2.2.1 _ _ C (hp_rt _) (hp_rt _) rC (x, C2) e1) cal_X7_letter rfl ins_X7_letter sel_X7_letter wm_552 (by decide) (by decide) rfl rfl (Nat.le_of_ble_eq_true rfl) dL_law_645 (fun hz => ?_)
  refine l_aload2 X dL_law_648 ?_
  refine l_arg X 1 hi (by decide) rfl dL_law_649 dL_law_650 dL_law_651 dL_law_652 dL_law_653 ?_
  refine l_arg X 2 hi (by decide) rfl dL_law_654 dL_law_655 dL_law_656 dL_law_657 dL_law_658 ?_
  refine l_callM X (ok_X8_letter X.2.2.2.1 _ _ M (hp_rt _) (hp_rt _) rM (x, M2) e2) cal_X8_letter rfl ins_X8_letter sel_X8_letter wm_1118 (by decide) (by decide) rfl rfl (Nat.le_of_ble_eq_true rfl) dL_law_659 (fun hz2 => ?_)
  exact l_eq X dL_law_662 (by decide) (kk C2 M2 h2 hz.2 hz2.2)
theorem lc_15 {l : Launch} {p : Program} {e : Env} {s : State} {m : MethodId} {below : List Frame} {meth : Method} {c : Code} {b L : Nat} {xs : Nat → Int32} {Gc Gm : hp_G} {i : Nat} {C M : hp_H} (X : lx p s m meth c b L xs Gc Gm) (hi : i + 7 ≤ L) (h : iv C M) (rC : hp_in C) (rM : hp_in M) (kk : ∀ C2 M2, iv C2 M2 → hp_in C2 → hp_in M2 → lr l p e s m below meth c b Gc Gm 1538 i [] C2 M2) : lr l p e s m below meth c b Gc Gm 667 i [] C M := by
  obtain ⟨x, M2, e1, e2, h2⟩ := op_lane h (lX xs (i + 1)) 
  refine l_aload1 X dL_law_667 ?_
  refine l_arg X 1 hi (by decide) rfl dL_law_668 dL_law_669 dL_law_670 dL_law_671 dL_law_672 ?_
  refine l_callC X (ok_X7_lane X.2.2.1 _ C (hp_rt _) rC x e1) cal_X7_lane rfl ins_X7_lane sel_X7_lane wm_571 (by decide) (by decide) rfl rfl (Nat.le_of_ble_eq_true rfl) dL_law_673 (fun hz => ?_)
  refine l_aload2 X dL_law_676 ?_
  refine l_arg X 1 hi (by decide) rfl dL_law_677 dL_law_678 dL_law_679 dL_law_680 dL_law_681 ?_
  refine l_callM X (ok_X8_lane X.2.2.2.1 _ M (hp_rt _) rM (x, M2) e2) cal_X8_lane rfl ins_X8_lane sel_X8_lane wm_1122 (by decide) (by decide) rfl rfl (Nat.le_of_ble_eq_true rfl) dL_law_682 (fun hz2 => ?_)
  exact l_eq X dL_law_685 (by decide) (kk C M2 h2 rC hz2.2)
theorem lc_16 {l : Launch} {p : Program} {e : Env} {s : State} {m : MethodId} {below : List Frame} {meth : Method} {c : Code} {b L : Nat} {xs : Nat → Int32} {Gc Gm : hp_G} {i : Nat} {C M : hp_H} (X : lx p s m meth c b L xs Gc Gm) (hi : i + 7 ≤ L) (h : iv C M) (rC : hp_in C) (rM : hp_in M) (kk : ∀ C2 M2, iv C2 M2 → hp_in C2 → hp_in M2 → lr l p e s m below meth c b Gc Gm 1538 i [] C2 M2) : lr l p e s m below meth c b Gc Gm 690 i [] C M := by
  obtain ⟨x, M2, e1, e2, h2⟩ := op_ahead h (lX xs (i + 1)) (lX xs (i + 2)) 
  refine l_aload1 X dL_law_690 ?_
  refine l_arg X 1 hi (by decide) rfl dL_law_691 dL_law_692 dL_law_693 dL_law_694 dL_law_695 ?_
  refine l_arg X 2 hi (by decide) rfl dL_law_696 dL_law_697 dL_law_698 dL_law_699 dL_law_700 ?_
  refine l_callC X (ok_X7_ahead X.2.2.1 _ _ C (hp_rt _) (hp_rt _) rC x e1) cal_X7_ahead rfl ins_X7_ahead sel_X7_ahead wm_580 (by decide) (by decide) rfl rfl (Nat.le_of_ble_eq_true rfl) dL_law_701 (fun hz => ?_)
  refine l_aload2 X dL_law_704 ?_
  refine l_arg X 1 hi (by decide) rfl dL_law_705 dL_law_706 dL_law_707 dL_law_708 dL_law_709 ?_
  refine l_arg X 2 hi (by decide) rfl dL_law_710 dL_law_711 dL_law_712 dL_law_713 dL_law_714 ?_
  refine l_callM X (ok_X8_ahead X.2.2.2.1 _ _ M (hp_rt _) (hp_rt _) rM (x, M2) e2) cal_X8_ahead rfl ins_X8_ahead sel_X8_ahead wm_1126 (by decide) (by decide) rfl rfl (Nat.le_of_ble_eq_true rfl) dL_law_715 (fun hz2 => ?_)
  exact l_eq X dL_law_718 (by decide) (kk C M2 h2 rC hz2.2)
theorem lc_17 {l : Launch} {p : Program} {e : Env} {s : State} {m : MethodId} {below : List Frame} {meth : Method} {c : Code} {b L : Nat} {xs : Nat → Int32} {Gc Gm : hp_G} {i : Nat} {C M : hp_H} (X : lx p s m meth c b L xs Gc Gm) (hi : i + 7 ≤ L) (h : iv C M) (rC : hp_in C) (rM : hp_in M) (kk : ∀ C2 M2, iv C2 M2 → hp_in C2 → hp_in M2 → lr l p e s m below meth c b Gc Gm 1538 i [] C2 M2) : lr l p e s m below meth c b Gc Gm 723 i [] C M := by
  obtain ⟨x, C2, M2, e1, e2, h2⟩ := op_letterAhead h (lX xs (i + 1)) (lX xs (i + 2)) 
  refine l_aload1 X dL_law_723 ?_
  refine l_arg X 1 hi (by decide) rfl dL_law_724 dL_law_725 dL_law_726 dL_law_727 dL_law_728 ?_
  refine l_arg X 2 hi (by decide) rfl dL_law_729 dL_law_730 dL_law_731 dL_law_732 dL_law_733 ?_
  refine l_callC X (ok_X7_letterAhead X.2.2.1 _ _ C (hp_rt _) (hp_rt _) rC (x, C2) e1) cal_X7_letterAhead rfl ins_X7_letterAhead sel_X7_letterAhead wm_584 (by decide) (by decide) rfl rfl (Nat.le_of_ble_eq_true rfl) dL_law_734 (fun hz => ?_)
  refine l_aload2 X dL_law_737 ?_
  refine l_arg X 1 hi (by decide) rfl dL_law_738 dL_law_739 dL_law_740 dL_law_741 dL_law_742 ?_
  refine l_arg X 2 hi (by decide) rfl dL_law_743 dL_law_744 dL_law_745 dL_law_746 dL_law_747 ?_
  refine l_callM X (ok_X8_letterAhead X.2.2.2.1 _ _ M (hp_rt _) (hp_rt _) rM (x, M2) e2) cal_X8_letterAhead rfl ins_X8_letterAhead sel_X8_letterAhead wm_1131 (by decide) (by decide) rfl rfl (Nat.le_of_ble_eq_true rfl) dL_law_748 (fun hz2 => ?_)
  exact l_eq X dL_law_751 (by decide) (kk C2 M2 h2 hz.2 hz2.2)
theorem lc_18 {l : Launch} {p : Program} {e : Env} {s : State} {m : MethodId} {below : List Frame} {meth : Method} {c : Code} {b L : Nat} {xs : Nat → Int32} {Gc Gm : hp_G} {i : Nat} {C M : hp_H} (X : lx p s m meth c b L xs Gc Gm) (hi : i + 7 ≤ L) (h : iv C M) (rC : hp_in C) (rM : hp_in M) (kk : ∀ C2 M2, iv C2 M2 → hp_in C2 → hp_in M2 → lr l p e s m below meth c b Gc Gm 1538 i [] C2 M2) : lr l p e s m below meth c b Gc Gm 756 i [] C M := by
  obtain ⟨x, C2, M2, e1, e2, h2⟩ := op_arrives h (lX xs (i + 1)) 
  refine l_aload1 X dL_law_756 ?_
  refine l_arg X 1 hi (by decide) rfl dL_law_757 dL_law_758 dL_law_759 dL_law_760 dL_law_761 ?_
  refine l_callC X (ok_X7_arrives X.2.2.1 _ C (hp_rt _) rC (x, C2) e1) cal_X7_arrives rfl ins_X7_arrives sel_X7_arrives wm_592 (by decide) (by decide) rfl rfl (Nat.le_of_ble_eq_true rfl) dL_law_762 (fun hz => ?_)
  refine l_aload2 X dL_law_765 ?_
  refine l_arg X 1 hi (by decide) rfl dL_law_766 dL_law_767 dL_law_768 dL_law_769 dL_law_770 ?_
  refine l_callM X (ok_X8_arrives X.2.2.2.1 _ M (hp_rt _) rM (x, M2) e2) cal_X8_arrives rfl ins_X8_arrives sel_X8_arrives wm_1143 (by decide) (by decide) rfl rfl (Nat.le_of_ble_eq_true rfl) dL_law_771 (fun hz2 => ?_)
  exact l_eq X dL_law_774 (by decide) (kk C2 M2 h2 hz.2 hz2.2)
theorem lc_19 {l : Launch} {p : Program} {e : Env} {s : State} {m : MethodId} {below : List Frame} {meth : Method} {c : Code} {b L : Nat} {xs : Nat → Int32} {Gc Gm : hp_G} {i : Nat} {C M : hp_H} (X : lx p s m meth c b L xs Gc Gm) (hi : i + 7 ≤ L) (h : iv C M) (rC : hp_in C) (rM : hp_in M) (kk : ∀ C2 M2, iv C2 M2 → hp_in C2 → hp_in M2 → lr l p e s m below meth c b Gc Gm 1538 i [] C2 M2) : lr l p e s m below meth c b Gc Gm 779 i [] C M := by
  obtain ⟨x, C2, M2, e1, e2, h2⟩ := op_carriers h (lX xs (i + 1)) (lX xs (i + 2)) 
  refine l_aload1 X dL_law_779 ?_
  refine l_arg X 1 hi (by decide) rfl dL_law_780 dL_law_781 dL_law_782 dL_law_783 dL_law_784 ?_
  refine l_arg X 2 hi (by decide) rfl dL_law_785 dL_law_786 dL_law_787 dL_law_788 dL_law_789 ?_
  refine l_callC X (ok_X7_carriers X.2.2.1 _ _ C (hp_rt _) (hp_rt _) rC (x, C2) e1) cal_X7_carriers rfl ins_X7_carriers sel_X7_carriers wm_606 (by decide) (by decide) rfl rfl (Nat.le_of_ble_eq_true rfl) dL_law_790 (fun hz => ?_)
  refine l_aload2 X dL_law_793 ?_
  refine l_arg X 1 hi (by decide) rfl dL_law_794 dL_law_795 dL_law_796 dL_law_797 dL_law_798 ?_
  refine l_arg X 2 hi (by decide) rfl dL_law_799 dL_law_800 dL_law_801 dL_law_802 dL_law_803 ?_
  refine l_callM X (ok_X8_carriers X.2.2.2.1 _ _ M (hp_rt _) (hp_rt _) rM (x, M2) e2) cal_X8_carriers rfl ins_X8_carriers sel_X8_carriers wm_1151 (by decide) (by decide) rfl rfl (Nat.le_of_ble_eq_true rfl) dL_law_804 (fun hz2 => ?_)
  exact l_eq X dL_law_807 (by decide) (kk C2 M2 h2 hz.2 hz2.2)
theorem lc_20 {l : Launch} {p : Program} {e : Env} {s : State} {m : MethodId} {below : List Frame} {meth : Method} {c : Code} {b L : Nat} {xs : Nat → Int32} {Gc Gm : hp_G} {i : Nat} {C M : hp_H} (X : lx p s m meth c b L xs Gc Gm) (hi : i + 7 ≤ L) (h : iv C M) (rC : hp_in C) (rM : hp_in M) (kk : ∀ C2 M2, iv C2 M2 → hp_in C2 → hp_in M2 → lr l p e s m below meth c b Gc Gm 1538 i [] C2 M2) : lr l p e s m below meth c b Gc Gm 812 i [] C M := by
  obtain ⟨x, C2, M2, e1, e2, h2⟩ := op_bestHour h (lX xs (i + 1)) (lX xs (i + 2)) (lX xs (i + 3)) 
  refine l_aload1 X dL_law_812 ?_
  refine l_arg X 1 hi (by decide) rfl dL_law_813 dL_law_814 dL_law_815 dL_law_816 dL_law_817 ?_
  refine l_arg X 2 hi (by decide) rfl dL_law_818 dL_law_819 dL_law_820 dL_law_821 dL_law_822 ?_
  refine l_arg X 3 hi (by decide) rfl dL_law_823 dL_law_824 dL_law_825 dL_law_826 dL_law_827 ?_
  refine l_callC X (ok_X7_bestHour X.2.2.1 _ _ _ C (hp_rt _) (hp_rt _) (hp_rt _) rC (x, C2) e1) cal_X7_bestHour rfl ins_X7_bestHour sel_X7_bestHour wm_617 (by decide) (by decide) rfl rfl (Nat.le_of_ble_eq_true rfl) dL_law_828 (fun hz => ?_)
  refine l_aload2 X dL_law_831 ?_
  refine l_arg X 1 hi (by decide) rfl dL_law_832 dL_law_833 dL_law_834 dL_law_835 dL_law_836 ?_
  refine l_arg X 2 hi (by decide) rfl dL_law_837 dL_law_838 dL_law_839 dL_law_840 dL_law_841 ?_
  refine l_arg X 3 hi (by decide) rfl dL_law_842 dL_law_843 dL_law_844 dL_law_845 dL_law_846 ?_
  refine l_callM X (ok_X8_bestHour X.2.2.2.1 _ _ _ M (hp_rt _) (hp_rt _) (hp_rt _) rM (x, M2) e2) cal_X8_bestHour rfl ins_X8_bestHour sel_X8_bestHour wm_1155 (by decide) (by decide) rfl rfl (Nat.le_of_ble_eq_true rfl) dL_law_847 (fun hz2 => ?_)
  exact l_eq X dL_law_850 (by decide) (kk C2 M2 h2 hz.2 hz2.2)
theorem lc_21 {l : Launch} {p : Program} {e : Env} {s : State} {m : MethodId} {below : List Frame} {meth : Method} {c : Code} {b L : Nat} {xs : Nat → Int32} {Gc Gm : hp_G} {i : Nat} {C M : hp_H} (X : lx p s m meth c b L xs Gc Gm) (hi : i + 7 ≤ L) (h : iv C M) (rC : hp_in C) (rM : hp_in M) (kk : ∀ C2 M2, iv C2 M2 → hp_in C2 → hp_in M2 → lr l p e s m below meth c b Gc Gm 1538 i [] C2 M2) : lr l p e s m below meth c b Gc Gm 855 i [] C M := by
  obtain ⟨x, C2, M2, e1, e2, h2⟩ := op_spots h (lX xs (i + 1)) (lX xs (i + 2)) 
  refine l_aload1 X dL_law_855 ?_
  refine l_arg X 1 hi (by decide) rfl dL_law_856 dL_law_857 dL_law_858 dL_law_859 dL_law_860 ?_
  refine l_arg X 2 hi (by decide) rfl dL_law_861 dL_law_862 dL_law_863 dL_law_864 dL_law_865 ?_
  refine l_callC X (ok_X7_spots X.2.2.1 _ _ C (hp_rt _) (hp_rt _) rC (x, C2) e1) cal_X7_spots rfl ins_X7_spots sel_X7_spots wm_627 (by decide) (by decide) rfl rfl (Nat.le_of_ble_eq_true rfl) dL_law_866 (fun hz => ?_)
  refine l_aload2 X dL_law_869 ?_
  refine l_arg X 1 hi (by decide) rfl dL_law_870 dL_law_871 dL_law_872 dL_law_873 dL_law_874 ?_
  refine l_arg X 2 hi (by decide) rfl dL_law_875 dL_law_876 dL_law_877 dL_law_878 dL_law_879 ?_
  refine l_callM X (ok_X8_spots X.2.2.2.1 _ _ M (hp_rt _) (hp_rt _) rM (x, M2) e2) cal_X8_spots rfl ins_X8_spots sel_X8_spots wm_1159 (by decide) (by decide) rfl rfl (Nat.le_of_ble_eq_true rfl) dL_law_880 (fun hz2 => ?_)
  exact l_eq X dL_law_883 (by decide) (kk C2 M2 h2 hz.2 hz2.2)
theorem lc_22 {l : Launch} {p : Program} {e : Env} {s : State} {m : MethodId} {below : List Frame} {meth : Method} {c : Code} {b L : Nat} {xs : Nat → Int32} {Gc Gm : hp_G} {i : Nat} {C M : hp_H} (X : lx p s m meth c b L xs Gc Gm) (hi : i + 7 ≤ L) (h : iv C M) (rC : hp_in C) (rM : hp_in M) (kk : ∀ C2 M2, iv C2 M2 → hp_in C2 → hp_in M2 → lr l p e s m below meth c b Gc Gm 1538 i [] C2 M2) : lr l p e s m below meth c b Gc Gm 888 i [] C M := by
  obtain ⟨x, C2, M2, e1, e2, h2⟩ := op_cutOff h  
  refine l_aload1 X dL_law_888 ?_
  refine l_callC X (ok_X7_cutOff X.2.2.1  C  rC (x, C2) e1) cal_X7_cutOff rfl ins_X7_cutOff sel_X7_cutOff wm_639 (by decide) (by decide) rfl rfl (Nat.le_of_ble_eq_true rfl) dL_law_889 (fun hz => ?_)
  refine l_aload2 X dL_law_892 ?_
  refine l_callM X (ok_X8_cutOff X.2.2.2.1  M  rM (x, M2) e2) cal_X8_cutOff rfl ins_X8_cutOff sel_X8_cutOff wm_1167 (by decide) (by decide) rfl rfl (Nat.le_of_ble_eq_true rfl) dL_law_893 (fun hz2 => ?_)
  exact l_eq X dL_law_896 (by decide) (kk C2 M2 h2 hz.2 hz2.2)
theorem lc_23 {l : Launch} {p : Program} {e : Env} {s : State} {m : MethodId} {below : List Frame} {meth : Method} {c : Code} {b L : Nat} {xs : Nat → Int32} {Gc Gm : hp_G} {i : Nat} {C M : hp_H} (X : lx p s m meth c b L xs Gc Gm) (hi : i + 7 ≤ L) (h : iv C M) (rC : hp_in C) (rM : hp_in M) (kk : ∀ C2 M2, iv C2 M2 → hp_in C2 → hp_in M2 → lr l p e s m below meth c b Gc Gm 1538 i [] C2 M2) : lr l p e s m below meth c b Gc Gm 901 i [] C M := by
  obtain ⟨x, C2, M2, e1, e2, h2⟩ := op_crew h (lX xs (i + 1)) (lX xs (i + 2)) (lX xs (i + 3)) 
  refine l_aload1 X dL_law_901 ?_
  refine l_arg X 1 hi (by decide) rfl dL_law_902 dL_law_903 dL_law_904 dL_law_905 dL_law_906 ?_
  refine l_arg X 2 hi (by decide) rfl dL_law_907 dL_law_908 dL_law_909 dL_law_910 dL_law_911 ?_
  refine l_arg X 3 hi (by decide) rfl dL_law_912 dL_law_913 dL_law_914 dL_law_915 dL_law_916 ?_
  refine l_callC X (ok_X7_crew X.2.2.1 _ _ _ C (hp_rt _) (hp_rt _) (hp_rt _) rC (x, C2) e1) cal_X7_crew rfl ins_X7_crew sel_X7_crew wm_647 (by decide) (by decide) rfl rfl (Nat.le_of_ble_eq_true rfl) dL_law_917 (fun hz => ?_)
  refine l_aload2 X dL_law_920 ?_
  refine l_arg X 1 hi (by decide) rfl dL_law_921 dL_law_922 dL_law_923 dL_law_924 dL_law_925 ?_
  refine l_arg X 2 hi (by decide) rfl dL_law_926 dL_law_927 dL_law_928 dL_law_929 dL_law_930 ?_
  refine l_arg X 3 hi (by decide) rfl dL_law_931 dL_law_932 dL_law_933 dL_law_934 dL_law_935 ?_
  refine l_callM X (ok_X8_crew X.2.2.2.1 _ _ _ M (hp_rt _) (hp_rt _) (hp_rt _) rM (x, M2) e2) cal_X8_crew rfl ins_X8_crew sel_X8_crew wm_1171 (by decide) (by decide) rfl rfl (Nat.le_of_ble_eq_true rfl) dL_law_936 (fun hz2 => ?_)
  exact l_eq X dL_law_939 (by decide) (kk C2 M2 h2 hz.2 hz2.2)
theorem lc_24 {l : Launch} {p : Program} {e : Env} {s : State} {m : MethodId} {below : List Frame} {meth : Method} {c : Code} {b L : Nat} {xs : Nat → Int32} {Gc Gm : hp_G} {i : Nat} {C M : hp_H} (X : lx p s m meth c b L xs Gc Gm) (hi : i + 7 ≤ L) (h : iv C M) (rC : hp_in C) (rM : hp_in M) (kk : ∀ C2 M2, iv C2 M2 → hp_in C2 → hp_in M2 → lr l p e s m below meth c b Gc Gm 1538 i [] C2 M2) : lr l p e s m below meth c b Gc Gm 944 i [] C M := by
  obtain ⟨x, C2, M2, e1, e2, h2⟩ := op_needed h (lX xs (i + 1)) (lX xs (i + 2)) 
  refine l_aload1 X dL_law_944 ?_
  refine l_arg X 1 hi (by decide) rfl dL_law_945 dL_law_946 dL_law_947 dL_law_948 dL_law_949 ?_
  refine l_arg X 2 hi (by decide) rfl dL_law_950 dL_law_951 dL_law_952 dL_law_953 dL_law_954 ?_
  refine l_callC X (ok_X7_needed X.2.2.1 _ _ C (hp_rt _) (hp_rt _) rC (x, C2) e1) cal_X7_needed rfl ins_X7_needed sel_X7_needed wm_669 (by decide) (by decide) rfl rfl (Nat.le_of_ble_eq_true rfl) dL_law_955 (fun hz => ?_)
  refine l_aload2 X dL_law_958 ?_
  refine l_arg X 1 hi (by decide) rfl dL_law_959 dL_law_960 dL_law_961 dL_law_962 dL_law_963 ?_
  refine l_arg X 2 hi (by decide) rfl dL_law_964 dL_law_965 dL_law_966 dL_law_967 dL_law_968 ?_
  refine l_callM X (ok_X8_needed X.2.2.2.1 _ _ M (hp_rt _) (hp_rt _) rM (x, M2) e2) cal_X8_needed rfl ins_X8_needed sel_X8_needed wm_1182 (by decide) (by decide) rfl rfl (Nat.le_of_ble_eq_true rfl) dL_law_969 (fun hz2 => ?_)
  exact l_eq X dL_law_972 (by decide) (kk C2 M2 h2 hz.2 hz2.2)
theorem lc_25 {l : Launch} {p : Program} {e : Env} {s : State} {m : MethodId} {below : List Frame} {meth : Method} {c : Code} {b L : Nat} {xs : Nat → Int32} {Gc Gm : hp_G} {i : Nat} {C M : hp_H} (X : lx p s m meth c b L xs Gc Gm) (hi : i + 7 ≤ L) (h : iv C M) (rC : hp_in C) (rM : hp_in M) (kk : ∀ C2 M2, iv C2 M2 → hp_in C2 → hp_in M2 → lr l p e s m below meth c b Gc Gm 1538 i [] C2 M2) : lr l p e s m below meth c b Gc Gm 977 i [] C M := by
  obtain ⟨x, M2, e1, e2, h2⟩ := op_meet h (lX xs (i + 1)) (lX xs (i + 2)) 
  refine l_aload1 X dL_law_977 ?_
  refine l_arg X 1 hi (by decide) rfl dL_law_978 dL_law_979 dL_law_980 dL_law_981 dL_law_982 ?_
  refine l_arg X 2 hi (by decide) rfl dL_law_983 dL_law_984 dL_law_985 dL_law_986 dL_law_987 ?_
  refine l_callC X (ok_X7_meet X.2.2.1 _ _ C (hp_rt _) (hp_rt _) rC x e1) cal_X7_meet rfl ins_X7_meet sel_X7_meet wm_678 (by decide) (by decide) rfl rfl (Nat.le_of_ble_eq_true rfl) dL_law_988 (fun hz => ?_)
  refine l_aload2 X dL_law_991 ?_
  refine l_arg X 1 hi (by decide) rfl dL_law_992 dL_law_993 dL_law_994 dL_law_995 dL_law_996 ?_
  refine l_arg X 2 hi (by decide) rfl dL_law_997 dL_law_998 dL_law_999 dL_law_1000 dL_law_1001 ?_
  refine l_callM X (ok_X8_meet X.2.2.2.1 _ _ M (hp_rt _) (hp_rt _) rM (x, M2) e2) cal_X8_meet rfl ins_X8_meet sel_X8_meet wm_1186 (by decide) (by decide) rfl rfl (Nat.le_of_ble_eq_true rfl) dL_law_1002 (fun hz2 => ?_)
  exact l_eq X dL_law_1005 (by decide) (kk C M2 h2 rC hz2.2)
theorem lc_26 {l : Launch} {p : Program} {e : Env} {s : State} {m : MethodId} {below : List Frame} {meth : Method} {c : Code} {b L : Nat} {xs : Nat → Int32} {Gc Gm : hp_G} {i : Nat} {C M : hp_H} (X : lx p s m meth c b L xs Gc Gm) (hi : i + 7 ≤ L) (h : iv C M) (rC : hp_in C) (rM : hp_in M) (kk : ∀ C2 M2, iv C2 M2 → hp_in C2 → hp_in M2 → lr l p e s m below meth c b Gc Gm 1538 i [] C2 M2) : lr l p e s m below meth c b Gc Gm 1010 i [] C M := by
  obtain ⟨x, C2, M2, e1, e2, h2⟩ := op_answer h (lX xs (i + 1)) 
  refine l_aload1 X dL_law_1010 ?_
  refine l_arg X 1 hi (by decide) rfl dL_law_1011 dL_law_1012 dL_law_1013 dL_law_1014 dL_law_1015 ?_
  refine l_callC X (ok_X7_answer X.2.2.1 _ C (hp_rt _) rC (x, C2) e1) cal_X7_answer rfl ins_X7_answer sel_X7_answer wm_687 (by decide) (by decide) rfl rfl (Nat.le_of_ble_eq_true rfl) dL_law_1016 (fun hz => ?_)
  refine l_aload2 X dL_law_1019 ?_
  refine l_arg X 1 hi (by decide) rfl dL_law_1020 dL_law_1021 dL_law_1022 dL_law_1023 dL_law_1024 ?_
  refine l_callM X (ok_X8_answer X.2.2.2.1 _ M (hp_rt _) rM (x, M2) e2) cal_X8_answer rfl ins_X8_answer sel_X8_answer wm_1190 (by decide) (by decide) rfl rfl (Nat.le_of_ble_eq_true rfl) dL_law_1025 (fun hz2 => ?_)
  exact l_eq X dL_law_1028 (by decide) (kk C2 M2 h2 hz.2 hz2.2)
theorem lc_27 {l : Launch} {p : Program} {e : Env} {s : State} {m : MethodId} {below : List Frame} {meth : Method} {c : Code} {b L : Nat} {xs : Nat → Int32} {Gc Gm : hp_G} {i : Nat} {C M : hp_H} (X : lx p s m meth c b L xs Gc Gm) (hi : i + 7 ≤ L) (h : iv C M) (rC : hp_in C) (rM : hp_in M) (kk : ∀ C2 M2, iv C2 M2 → hp_in C2 → hp_in M2 → lr l p e s m below meth c b Gc Gm 1538 i [] C2 M2) : lr l p e s m below meth c b Gc Gm 1033 i [] C M := by
  obtain ⟨x, C2, M2, e1, e2, h2⟩ := op_who h (lX xs (i + 1)) (lX xs (i + 2)) (lX xs (i + 3)) (lX xs (i + 4)) (lX xs (i + 5)) (lX xs (i + 6)) (hp_rt _)
  refine l_aload1 X dL_law_1033 ?_
  refine l_arg X 1 hi (by decide) rfl dL_law_1034 dL_law_1035 dL_law_1036 dL_law_1037 dL_law_1038 ?_
  refine l_arg X 2 hi (by decide) rfl dL_law_1039 dL_law_1040 dL_law_1041 dL_law_1042 dL_law_1043 ?_
  refine l_arg X 3 hi (by decide) rfl dL_law_1044 dL_law_1045 dL_law_1046 dL_law_1047 dL_law_1048 ?_
  refine l_arg X 4 hi (by decide) rfl dL_law_1049 dL_law_1050 dL_law_1051 dL_law_1052 dL_law_1053 ?_
  refine l_arg X 5 hi (by decide) rfl dL_law_1054 dL_law_1055 dL_law_1056 dL_law_1057 dL_law_1058 ?_
  refine l_arg6 X hi dL_law_1059 dL_law_1060 dL_law_1061 dL_law_1063 dL_law_1064 ?_
  refine l_callC X (ok_X7_who X.2.2.1 _ _ _ _ _ _ C (hp_rt _) (hp_rt _) (hp_rt _) (hp_rt _) (hp_rt _) (hp_rt _) rC (x, C2) e1) cal_X7_who rfl ins_X7_who sel_X7_who wm_695 (by decide) (by decide) rfl rfl (Nat.le_of_ble_eq_true rfl) dL_law_1065 (fun hz => ?_)
  refine l_aload2 X dL_law_1068 ?_
  refine l_arg X 1 hi (by decide) rfl dL_law_1069 dL_law_1070 dL_law_1071 dL_law_1072 dL_law_1073 ?_
  refine l_arg X 2 hi (by decide) rfl dL_law_1074 dL_law_1075 dL_law_1076 dL_law_1077 dL_law_1078 ?_
  refine l_arg X 3 hi (by decide) rfl dL_law_1079 dL_law_1080 dL_law_1081 dL_law_1082 dL_law_1083 ?_
  refine l_arg X 4 hi (by decide) rfl dL_law_1084 dL_law_1085 dL_law_1086 dL_law_1087 dL_law_1088 ?_
  refine l_arg X 5 hi (by decide) rfl dL_law_1089 dL_law_1090 dL_law_1091 dL_law_1092 dL_law_1093 ?_
  refine l_arg6 X hi dL_law_1094 dL_law_1095 dL_law_1096 dL_law_1098 dL_law_1099 ?_
  refine l_callM X (ok_X8_who X.2.2.2.1 _ _ _ _ _ _ M (hp_rt _) (hp_rt _) (hp_rt _) (hp_rt _) (hp_rt _) (hp_rt _) rM (x, M2) e2) cal_X8_who rfl ins_X8_who sel_X8_who wm_1194 (by decide) (by decide) rfl rfl (Nat.le_of_ble_eq_true rfl) dL_law_1100 (fun hz2 => ?_)
  exact l_eq X dL_law_1103 (by decide) (kk C2 M2 h2 hz.2 hz2.2)
theorem lc_28 {l : Launch} {p : Program} {e : Env} {s : State} {m : MethodId} {below : List Frame} {meth : Method} {c : Code} {b L : Nat} {xs : Nat → Int32} {Gc Gm : hp_G} {i : Nat} {C M : hp_H} (X : lx p s m meth c b L xs Gc Gm) (hi : i + 7 ≤ L) (h : iv C M) (rC : hp_in C) (rM : hp_in M) (kk : ∀ C2 M2, iv C2 M2 → hp_in C2 → hp_in M2 → lr l p e s m below meth c b Gc Gm 1538 i [] C2 M2) : lr l p e s m below meth c b Gc Gm 1108 i [] C M := by
  obtain ⟨x, C2, M2, e1, e2, h2⟩ := op_missing h (lX xs (i + 1)) (lX xs (i + 2)) (lX xs (i + 3)) (lX xs (i + 4)) (hp_rt _)
  refine l_aload1 X dL_law_1108 ?_
  refine l_arg X 1 hi (by decide) rfl dL_law_1109 dL_law_1110 dL_law_1111 dL_law_1112 dL_law_1113 ?_
  refine l_arg X 2 hi (by decide) rfl dL_law_1114 dL_law_1115 dL_law_1116 dL_law_1117 dL_law_1118 ?_
  refine l_arg X 3 hi (by decide) rfl dL_law_1119 dL_law_1120 dL_law_1121 dL_law_1122 dL_law_1123 ?_
  refine l_arg X 4 hi (by decide) rfl dL_law_1124 dL_law_1125 dL_law_1126 dL_law_1127 dL_law_1128 ?_
  refine l_callC X (ok_X7_missing X.2.2.1 _ _ _ _ C (hp_rt _) (hp_rt _) (hp_rt _) (hp_rt _) rC (x, C2) e1) cal_X7_missing rfl ins_X7_missing sel_X7_missing wm_724 (by decide) (by decide) rfl rfl (Nat.le_of_ble_eq_true rfl) dL_law_1129 (fun hz => ?_)
  refine l_aload2 X dL_law_1132 ?_
  refine l_arg X 1 hi (by decide) rfl dL_law_1133 dL_law_1134 dL_law_1135 dL_law_1136 dL_law_1137 ?_
  refine l_arg X 2 hi (by decide) rfl dL_law_1138 dL_law_1139 dL_law_1140 dL_law_1141 dL_law_1142 ?_
  refine l_arg X 3 hi (by decide) rfl dL_law_1143 dL_law_1144 dL_law_1145 dL_law_1146 dL_law_1147 ?_
  refine l_arg X 4 hi (by decide) rfl dL_law_1148 dL_law_1149 dL_law_1150 dL_law_1151 dL_law_1152 ?_
  refine l_callM X (ok_X8_missing X.2.2.2.1 _ _ _ _ M (hp_rt _) (hp_rt _) (hp_rt _) (hp_rt _) rM (x, M2) e2) cal_X8_missing rfl ins_X8_missing sel_X8_missing wm_1207 (by decide) (by decide) rfl rfl (Nat.le_of_ble_eq_true rfl) dL_law_1153 (fun hz2 => ?_)
  exact l_eq X dL_law_1156 (by decide) (kk C2 M2 h2 hz.2 hz2.2)
theorem lc_29 {l : Launch} {p : Program} {e : Env} {s : State} {m : MethodId} {below : List Frame} {meth : Method} {c : Code} {b L : Nat} {xs : Nat → Int32} {Gc Gm : hp_G} {i : Nat} {C M : hp_H} (X : lx p s m meth c b L xs Gc Gm) (hi : i + 7 ≤ L) (h : iv C M) (rC : hp_in C) (rM : hp_in M) (kk : ∀ C2 M2, iv C2 M2 → hp_in C2 → hp_in M2 → lr l p e s m below meth c b Gc Gm 1538 i [] C2 M2) : lr l p e s m below meth c b Gc Gm 1161 i [] C M := by
  obtain ⟨x, C2, M2, e1, e2, h2⟩ := op_goals h (lX xs (i + 1)) (lX xs (i + 2)) (lX xs (i + 3)) (lX xs (i + 4)) (hp_rt _)
  refine l_aload1 X dL_law_1161 ?_
  refine l_arg X 1 hi (by decide) rfl dL_law_1162 dL_law_1163 dL_law_1164 dL_law_1165 dL_law_1166 ?_
  refine l_arg X 2 hi (by decide) rfl dL_law_1167 dL_law_1168 dL_law_1169 dL_law_1170 dL_law_1171 ?_
  refine l_arg X 3 hi (by decide) rfl dL_law_1172 dL_law_1173 dL_law_1174 dL_law_1175 dL_law_1176 ?_
  refine l_arg X 4 hi (by decide) rfl dL_law_1177 dL_law_1178 dL_law_1179 dL_law_1180 dL_law_1181 ?_
  refine l_callC X (ok_X7_goals X.2.2.1 _ _ _ _ C (hp_rt _) (hp_rt _) (hp_rt _) (hp_rt _) rC (x, C2) e1) cal_X7_goals rfl ins_X7_goals sel_X7_goals wm_732 (by decide) (by decide) rfl rfl (Nat.le_of_ble_eq_true rfl) dL_law_1182 (fun hz => ?_)
  refine l_aload2 X dL_law_1185 ?_
  refine l_arg X 1 hi (by decide) rfl dL_law_1186 dL_law_1187 dL_law_1188 dL_law_1189 dL_law_1190 ?_
  refine l_arg X 2 hi (by decide) rfl dL_law_1191 dL_law_1192 dL_law_1193 dL_law_1194 dL_law_1195 ?_
  refine l_arg X 3 hi (by decide) rfl dL_law_1196 dL_law_1197 dL_law_1198 dL_law_1199 dL_law_1200 ?_
  refine l_arg X 4 hi (by decide) rfl dL_law_1201 dL_law_1202 dL_law_1203 dL_law_1204 dL_law_1205 ?_
  refine l_callM X (ok_X8_goals X.2.2.2.1 _ _ _ _ M (hp_rt _) (hp_rt _) (hp_rt _) (hp_rt _) rM (x, M2) e2) cal_X8_goals rfl ins_X8_goals sel_X8_goals wm_1211 (by decide) (by decide) rfl rfl (Nat.le_of_ble_eq_true rfl) dL_law_1206 (fun hz2 => ?_)
  exact l_eq X dL_law_1209 (by decide) (kk C2 M2 h2 hz.2 hz2.2)
theorem lc_30 {l : Launch} {p : Program} {e : Env} {s : State} {m : MethodId} {below : List Frame} {meth : Method} {c : Code} {b L : Nat} {xs : Nat → Int32} {Gc Gm : hp_G} {i : Nat} {C M : hp_H} (X : lx p s m meth c b L xs Gc Gm) (hi : i + 7 ≤ L) (h : iv C M) (rC : hp_in C) (rM : hp_in M) (kk : ∀ C2 M2, iv C2 M2 → hp_in C2 → hp_in M2 → lr l p e s m below meth c b Gc Gm 1538 i [] C2 M2) : lr l p e s m below meth c b Gc Gm 1214 i [] C M := by
  obtain ⟨x, C2, M2, e1, e2, h2⟩ := op_busy h (lX xs (i + 1)) (lX xs (i + 2)) 
  refine l_aload1 X dL_law_1214 ?_
  refine l_arg X 1 hi (by decide) rfl dL_law_1215 dL_law_1216 dL_law_1217 dL_law_1218 dL_law_1219 ?_
  refine l_arg X 2 hi (by decide) rfl dL_law_1220 dL_law_1221 dL_law_1222 dL_law_1223 dL_law_1224 ?_
  refine l_callC X (ok_X7_busy X.2.2.1 _ _ C (hp_rt _) (hp_rt _) rC (x, C2) e1) cal_X7_busy rfl ins_X7_busy sel_X7_busy wm_740 (by decide) (by decide) rfl rfl (Nat.le_of_ble_eq_true rfl) dL_law_1225 (fun hz => ?_)
  refine l_aload2 X dL_law_1228 ?_
  refine l_arg X 1 hi (by decide) rfl dL_law_1229 dL_law_1230 dL_law_1231 dL_law_1232 dL_law_1233 ?_
  refine l_arg X 2 hi (by decide) rfl dL_law_1234 dL_law_1235 dL_law_1236 dL_law_1237 dL_law_1238 ?_
  refine l_callM X (ok_X8_busy X.2.2.2.1 _ _ M (hp_rt _) (hp_rt _) rM (x, M2) e2) cal_X8_busy rfl ins_X8_busy sel_X8_busy wm_1215 (by decide) (by decide) rfl rfl (Nat.le_of_ble_eq_true rfl) dL_law_1239 (fun hz2 => ?_)
  exact l_eq X dL_law_1242 (by decide) (kk C2 M2 h2 hz.2 hz2.2)
theorem lc_31 {l : Launch} {p : Program} {e : Env} {s : State} {m : MethodId} {below : List Frame} {meth : Method} {c : Code} {b L : Nat} {xs : Nat → Int32} {Gc Gm : hp_G} {i : Nat} {C M : hp_H} (X : lx p s m meth c b L xs Gc Gm) (hi : i + 7 ≤ L) (h : iv C M) (rC : hp_in C) (rM : hp_in M) (kk : ∀ C2 M2, iv C2 M2 → hp_in C2 → hp_in M2 → lr l p e s m below meth c b Gc Gm 1538 i [] C2 M2) : lr l p e s m below meth c b Gc Gm 1247 i [] C M := by
  obtain ⟨x, C2, M2, e1, e2, h2⟩ := op_sick h (lX xs (i + 1)) (lX xs (i + 2)) (lX xs (i + 3)) (lX xs (i + 4)) 
  refine l_aload1 X dL_law_1247 ?_
  refine l_arg X 1 hi (by decide) rfl dL_law_1248 dL_law_1249 dL_law_1250 dL_law_1251 dL_law_1252 ?_
  refine l_arg X 2 hi (by decide) rfl dL_law_1253 dL_law_1254 dL_law_1255 dL_law_1256 dL_law_1257 ?_
  refine l_arg X 3 hi (by decide) rfl dL_law_1258 dL_law_1259 dL_law_1260 dL_law_1261 dL_law_1262 ?_
  refine l_arg X 4 hi (by decide) rfl dL_law_1263 dL_law_1264 dL_law_1265 dL_law_1266 dL_law_1267 ?_
  refine l_callC X (ok_X7_sick X.2.2.1 _ _ _ _ C (hp_rt _) (hp_rt _) (hp_rt _) (hp_rt _) rC (x, C2) e1) cal_X7_sick rfl ins_X7_sick sel_X7_sick wm_752 (by decide) (by decide) rfl rfl (Nat.le_of_ble_eq_true rfl) dL_law_1268 (fun hz => ?_)
  refine l_aload2 X dL_law_1271 ?_
  refine l_arg X 1 hi (by decide) rfl dL_law_1272 dL_law_1273 dL_law_1274 dL_law_1275 dL_law_1276 ?_
  refine l_arg X 2 hi (by decide) rfl dL_law_1277 dL_law_1278 dL_law_1279 dL_law_1280 dL_law_1281 ?_
  refine l_arg X 3 hi (by decide) rfl dL_law_1282 dL_law_1283 dL_law_1284 dL_law_1285 dL_law_1286 ?_
  refine l_arg X 4 hi (by decide) rfl dL_law_1287 dL_law_1288 dL_law_1289 dL_law_1290 dL_law_1291 ?_
  refine l_callM X (ok_X8_sick X.2.2.2.1 _ _ _ _ M (hp_rt _) (hp_rt _) (hp_rt _) (hp_rt _) rM (x, M2) e2) cal_X8_sick rfl ins_X8_sick sel_X8_sick wm_1219 (by decide) (by decide) rfl rfl (Nat.le_of_ble_eq_true rfl) dL_law_1292 (fun hz2 => ?_)
  exact l_eql X hz.1 dL_law_1295 dL_law_1296 (by decide) (kk C2 M2 h2 hz.2 hz2.2)
theorem lc_32 {l : Launch} {p : Program} {e : Env} {s : State} {m : MethodId} {below : List Frame} {meth : Method} {c : Code} {b L : Nat} {xs : Nat → Int32} {Gc Gm : hp_G} {i : Nat} {C M : hp_H} (X : lx p s m meth c b L xs Gc Gm) (hi : i + 7 ≤ L) (h : iv C M) (rC : hp_in C) (rM : hp_in M) (kk : ∀ C2 M2, iv C2 M2 → hp_in C2 → hp_in M2 → lr l p e s m below meth c b Gc Gm 1538 i [] C2 M2) : lr l p e s m below meth c b Gc Gm 1301 i [] C M := by
  obtain ⟨x, C2, M2, e1, e2, h2⟩ := op_drawn h (lX xs (i + 1)) (lX xs (i + 2)) (lX xs (i + 3)) 
  refine l_aload1 X dL_law_1301 ?_
  refine l_arg X 1 hi (by decide) rfl dL_law_1302 dL_law_1303 dL_law_1304 dL_law_1305 dL_law_1306 ?_
  refine l_arg X 2 hi (by decide) rfl dL_law_1307 dL_law_1308 dL_law_1309 dL_law_1310 dL_law_1311 ?_
  refine l_arg X 3 hi (by decide) rfl dL_law_1312 dL_law_1313 dL_law_1314 dL_law_1315 dL_law_1316 ?_
  refine l_callC X (ok_X7_drawn X.2.2.1 _ _ _ C (hp_rt _) (hp_rt _) (hp_rt _) rC (x, C2) e1) cal_X7_drawn rfl ins_X7_drawn sel_X7_drawn wm_770 (by decide) (by decide) rfl rfl (Nat.le_of_ble_eq_true rfl) dL_law_1317 (fun hz => ?_)
  refine l_aload2 X dL_law_1320 ?_
  refine l_arg X 1 hi (by decide) rfl dL_law_1321 dL_law_1322 dL_law_1323 dL_law_1324 dL_law_1325 ?_
  refine l_arg X 2 hi (by decide) rfl dL_law_1326 dL_law_1327 dL_law_1328 dL_law_1329 dL_law_1330 ?_
  refine l_arg X 3 hi (by decide) rfl dL_law_1331 dL_law_1332 dL_law_1333 dL_law_1334 dL_law_1335 ?_
  refine l_callM X (ok_X8_drawn X.2.2.2.1 _ _ _ M (hp_rt _) (hp_rt _) (hp_rt _) rM (x, M2) e2) cal_X8_drawn rfl ins_X8_drawn sel_X8_drawn wm_1226 (by decide) (by decide) rfl rfl (Nat.le_of_ble_eq_true rfl) dL_law_1336 (fun hz2 => ?_)
  exact l_eq X dL_law_1339 (by decide) (kk C2 M2 h2 hz.2 hz2.2)
theorem lc_33 {l : Launch} {p : Program} {e : Env} {s : State} {m : MethodId} {below : List Frame} {meth : Method} {c : Code} {b L : Nat} {xs : Nat → Int32} {Gc Gm : hp_G} {i : Nat} {C M : hp_H} (X : lx p s m meth c b L xs Gc Gm) (hi : i + 7 ≤ L) (h : iv C M) (rC : hp_in C) (rM : hp_in M) (kk : ∀ C2 M2, iv C2 M2 → hp_in C2 → hp_in M2 → lr l p e s m below meth c b Gc Gm 1538 i [] C2 M2) : lr l p e s m below meth c b Gc Gm 1344 i [] C M := by
  obtain ⟨x, C2, M2, e1, e2, h2⟩ := op_image h (lX xs (i + 1)) 
  refine l_aload1 X dL_law_1344 ?_
  refine l_arg X 1 hi (by decide) rfl dL_law_1345 dL_law_1346 dL_law_1347 dL_law_1348 dL_law_1349 ?_
  refine l_callC X (ok_X7_image X.2.2.1 _ C (hp_rt _) rC (x, C2) e1) cal_X7_image rfl ins_X7_image sel_X7_image wm_784 (by decide) (by decide) rfl rfl (Nat.le_of_ble_eq_true rfl) dL_law_1350 (fun hz => ?_)
  refine l_aload2 X dL_law_1353 ?_
  refine l_arg X 1 hi (by decide) rfl dL_law_1354 dL_law_1355 dL_law_1356 dL_law_1357 dL_law_1358 ?_
  refine l_callM X (ok_X8_image X.2.2.2.1 _ M (hp_rt _) rM (x, M2) e2) cal_X8_image rfl ins_X8_image sel_X8_image wm_1234 (by decide) (by decide) rfl rfl (Nat.le_of_ble_eq_true rfl) dL_law_1359 (fun hz2 => ?_)
  exact l_eq X dL_law_1362 (by decide) (kk C2 M2 h2 hz.2 hz2.2)
theorem lc_34 {l : Launch} {p : Program} {e : Env} {s : State} {m : MethodId} {below : List Frame} {meth : Method} {c : Code} {b L : Nat} {xs : Nat → Int32} {Gc Gm : hp_G} {i : Nat} {C M : hp_H} (X : lx p s m meth c b L xs Gc Gm) (hi : i + 7 ≤ L) (h : iv C M) (rC : hp_in C) (rM : hp_in M) (kk : ∀ C2 M2, iv C2 M2 → hp_in C2 → hp_in M2 → lr l p e s m below meth c b Gc Gm 1538 i [] C2 M2) : lr l p e s m below meth c b Gc Gm 1367 i [] C M := by
  obtain ⟨x, C2, M2, e1, e2, h2⟩ := op_restore h (lX xs (i + 1)) 
  refine l_aload1 X dL_law_1367 ?_
  refine l_arg X 1 hi (by decide) rfl dL_law_1368 dL_law_1369 dL_law_1370 dL_law_1371 dL_law_1372 ?_
  refine l_callC X (ok_X7_restore X.2.2.1 _ C (hp_rt _) rC (x, C2) e1) cal_X7_restore rfl ins_X7_restore sel_X7_restore wm_788 (by decide) (by decide) rfl rfl (Nat.le_of_ble_eq_true rfl) dL_law_1373 (fun hz => ?_)
  refine l_aload2 X dL_law_1376 ?_
  refine l_arg X 1 hi (by decide) rfl dL_law_1377 dL_law_1378 dL_law_1379 dL_law_1380 dL_law_1381 ?_
  refine l_callM X (ok_X8_restore X.2.2.2.1 _ M (hp_rt _) rM (x, M2) e2) cal_X8_restore rfl ins_X8_restore sel_X8_restore wm_1238 (by decide) (by decide) rfl rfl (Nat.le_of_ble_eq_true rfl) dL_law_1382 (fun hz2 => ?_)
  exact l_eq X dL_law_1385 (by decide) (kk C2 M2 h2 hz.2 hz2.2)
theorem lc_35 {l : Launch} {p : Program} {e : Env} {s : State} {m : MethodId} {below : List Frame} {meth : Method} {c : Code} {b L : Nat} {xs : Nat → Int32} {Gc Gm : hp_G} {i : Nat} {C M : hp_H} (X : lx p s m meth c b L xs Gc Gm) (hi : i + 7 ≤ L) (h : iv C M) (rC : hp_in C) (rM : hp_in M) (kk : ∀ C2 M2, iv C2 M2 → hp_in C2 → hp_in M2 → lr l p e s m below meth c b Gc Gm 1538 i [] C2 M2) : lr l p e s m below meth c b Gc Gm 1390 i [] C M := by
  obtain ⟨x, M2, e1, e2, h2⟩ := op_kind h (lX xs (i + 1)) 
  refine l_aload1 X dL_law_1390 ?_
  refine l_arg X 1 hi (by decide) rfl dL_law_1391 dL_law_1392 dL_law_1393 dL_law_1394 dL_law_1395 ?_
  refine l_callC X (ok_X7_kind X.2.2.1 _ C (hp_rt _) rC x e1) cal_X7_kind rfl ins_X7_kind sel_X7_kind wm_792 (by decide) (by decide) rfl rfl (Nat.le_of_ble_eq_true rfl) dL_law_1396 (fun hz => ?_)
  refine l_aload2 X dL_law_1399 ?_
  refine l_arg X 1 hi (by decide) rfl dL_law_1400 dL_law_1401 dL_law_1402 dL_law_1403 dL_law_1404 ?_
  refine l_callM X (ok_X8_kind X.2.2.2.1 _ M (hp_rt _) rM (x, M2) e2) cal_X8_kind rfl ins_X8_kind sel_X8_kind wm_1242 (by decide) (by decide) rfl rfl (Nat.le_of_ble_eq_true rfl) dL_law_1405 (fun hz2 => ?_)
  exact l_eq X dL_law_1408 (by decide) (kk C M2 h2 rC hz2.2)
theorem lc_36 {l : Launch} {p : Program} {e : Env} {s : State} {m : MethodId} {below : List Frame} {meth : Method} {c : Code} {b L : Nat} {xs : Nat → Int32} {Gc Gm : hp_G} {i : Nat} {C M : hp_H} (X : lx p s m meth c b L xs Gc Gm) (hi : i + 7 ≤ L) (h : iv C M) (rC : hp_in C) (rM : hp_in M) (kk : ∀ C2 M2, iv C2 M2 → hp_in C2 → hp_in M2 → lr l p e s m below meth c b Gc Gm 1538 i [] C2 M2) : lr l p e s m below meth c b Gc Gm 1413 i [] C M := by
  obtain ⟨x, C2, M2, e1, e2, h2⟩ := op_as h (lX xs (i + 1)) (lX xs (i + 2)) 
  refine l_aload1 X dL_law_1413 ?_
  refine l_arg X 1 hi (by decide) rfl dL_law_1414 dL_law_1415 dL_law_1416 dL_law_1417 dL_law_1418 ?_
  refine l_arg X 2 hi (by decide) rfl dL_law_1419 dL_law_1420 dL_law_1421 dL_law_1422 dL_law_1423 ?_
  refine l_callC X (ok_X7_as X.2.2.1 _ _ C (hp_rt _) (hp_rt _) rC (x, C2) e1) cal_X7_as rfl ins_X7_as sel_X7_as wm_796 (by decide) (by decide) rfl rfl (Nat.le_of_ble_eq_true rfl) dL_law_1424 (fun hz => ?_)
  refine l_aload2 X dL_law_1427 ?_
  refine l_arg X 1 hi (by decide) rfl dL_law_1428 dL_law_1429 dL_law_1430 dL_law_1431 dL_law_1432 ?_
  refine l_arg X 2 hi (by decide) rfl dL_law_1433 dL_law_1434 dL_law_1435 dL_law_1436 dL_law_1437 ?_
  refine l_callM X (ok_X8_as X.2.2.2.1 _ _ M (hp_rt _) (hp_rt _) rM (x, M2) e2) cal_X8_as rfl ins_X8_as sel_X8_as wm_1246 (by decide) (by decide) rfl rfl (Nat.le_of_ble_eq_true rfl) dL_law_1438 (fun hz2 => ?_)
  exact l_eq X dL_law_1441 (by decide) (kk C2 M2 h2 hz.2 hz2.2)
theorem lc_37 {l : Launch} {p : Program} {e : Env} {s : State} {m : MethodId} {below : List Frame} {meth : Method} {c : Code} {b L : Nat} {xs : Nat → Int32} {Gc Gm : hp_G} {i : Nat} {C M : hp_H} (X : lx p s m meth c b L xs Gc Gm) (hi : i + 7 ≤ L) (h : iv C M) (rC : hp_in C) (rM : hp_in M) (kk : ∀ C2 M2, iv C2 M2 → hp_in C2 → hp_in M2 → lr l p e s m below meth c b Gc Gm 1538 i [] C2 M2) : lr l p e s m below meth c b Gc Gm 1446 i [] C M := by
  obtain ⟨x, C2, M2, e1, e2, h2⟩ := op_ask h (lX xs (i + 1)) (lX xs (i + 2)) 
  refine l_aload1 X dL_law_1446 ?_
  refine l_arg X 1 hi (by decide) rfl dL_law_1447 dL_law_1448 dL_law_1449 dL_law_1450 dL_law_1451 ?_
  refine l_arg X 2 hi (by decide) rfl dL_law_1452 dL_law_1453 dL_law_1454 dL_law_1455 dL_law_1456 ?_
  refine l_callC X (ok_X7_ask X.2.2.1 _ _ C (hp_rt _) (hp_rt _) rC (x, C2) e1) cal_X7_ask rfl ins_X7_ask sel_X7_ask wm_805 (by decide) (by decide) rfl rfl (Nat.le_of_ble_eq_true rfl) dL_law_1457 (fun hz => ?_)
  refine l_aload2 X dL_law_1460 ?_
  refine l_arg X 1 hi (by decide) rfl dL_law_1461 dL_law_1462 dL_law_1463 dL_law_1464 dL_law_1465 ?_
  refine l_arg X 2 hi (by decide) rfl dL_law_1466 dL_law_1467 dL_law_1468 dL_law_1469 dL_law_1470 ?_
  refine l_callM X (ok_X8_ask X.2.2.2.1 _ _ M (hp_rt _) (hp_rt _) rM (x, M2) e2) cal_X8_ask rfl ins_X8_ask sel_X8_ask wm_1253 (by decide) (by decide) rfl rfl (Nat.le_of_ble_eq_true rfl) dL_law_1471 (fun hz2 => ?_)
  exact l_eq X dL_law_1474 (by decide) (kk C2 M2 h2 hz.2 hz2.2)
theorem lc_38 {l : Launch} {p : Program} {e : Env} {s : State} {m : MethodId} {below : List Frame} {meth : Method} {c : Code} {b L : Nat} {xs : Nat → Int32} {Gc Gm : hp_G} {i : Nat} {C M : hp_H} (X : lx p s m meth c b L xs Gc Gm) (hi : i + 7 ≤ L) (h : iv C M) (rC : hp_in C) (rM : hp_in M) (kk : ∀ C2 M2, iv C2 M2 → hp_in C2 → hp_in M2 → lr l p e s m below meth c b Gc Gm 1538 i [] C2 M2) : lr l p e s m below meth c b Gc Gm 1479 i [] C M := by
  obtain ⟨x, M2, e1, e2, h2⟩ := op_trace h (lX xs (i + 1)) 
  refine l_aload1 X dL_law_1479 ?_
  refine l_arg X 1 hi (by decide) rfl dL_law_1480 dL_law_1481 dL_law_1482 dL_law_1483 dL_law_1484 ?_
  refine l_callC X (ok_X7_trace X.2.2.1 _ C (hp_rt _) rC x e1) cal_X7_trace rfl ins_X7_trace sel_X7_trace wm_830 (by decide) (by decide) rfl rfl (Nat.le_of_ble_eq_true rfl) dL_law_1485 (fun hz => ?_)
  refine l_aload2 X dL_law_1488 ?_
  refine l_arg X 1 hi (by decide) rfl dL_law_1489 dL_law_1490 dL_law_1491 dL_law_1492 dL_law_1493 ?_
  refine l_callM X (ok_X8_trace X.2.2.2.1 _ M (hp_rt _) rM (x, M2) e2) cal_X8_trace rfl ins_X8_trace sel_X8_trace wm_1277 (by decide) (by decide) rfl rfl (Nat.le_of_ble_eq_true rfl) dL_law_1494 (fun hz2 => ?_)
  exact l_eq X dL_law_1497 (by decide) (kk C M2 h2 rC hz2.2)
theorem lc_39 {l : Launch} {p : Program} {e : Env} {s : State} {m : MethodId} {below : List Frame} {meth : Method} {c : Code} {b L : Nat} {xs : Nat → Int32} {Gc Gm : hp_G} {i : Nat} {C M : hp_H} (X : lx p s m meth c b L xs Gc Gm) (hi : i + 7 ≤ L) (h : iv C M) (rC : hp_in C) (rM : hp_in M) (kk : ∀ C2 M2, iv C2 M2 → hp_in C2 → hp_in M2 → lr l p e s m below meth c b Gc Gm 1538 i [] C2 M2) : lr l p e s m below meth c b Gc Gm 1502 i [] C M := by
  obtain ⟨x, M2, e1, e2, h2⟩ := op_count h (lX xs (i + 1)) 
  refine l_aload1 X dL_law_1502 ?_
  refine l_arg X 1 hi (by decide) rfl dL_law_1503 dL_law_1504 dL_law_1505 dL_law_1506 dL_law_1507 ?_
  refine l_callC X (ok_X7_count X.2.2.1 _ C (hp_rt _) rC x e1) cal_X7_count rfl ins_X7_count sel_X7_count wm_839 (by decide) (by decide) rfl rfl (Nat.le_of_ble_eq_true rfl) dL_law_1508 (fun hz => ?_)
  refine l_aload2 X dL_law_1511 ?_
  refine l_arg X 1 hi (by decide) rfl dL_law_1512 dL_law_1513 dL_law_1514 dL_law_1515 dL_law_1516 ?_
  refine l_callM X (ok_X8_count X.2.2.2.1 _ M (hp_rt _) rM (x, M2) e2) cal_X8_count rfl ins_X8_count sel_X8_count wm_1281 (by decide) (by decide) rfl rfl (Nat.le_of_ble_eq_true rfl) dL_law_1517 (fun hz2 => ?_)
  exact l_eq X dL_law_1520 (by decide) (kk C M2 h2 rC hz2.2)
theorem lc_40 {l : Launch} {p : Program} {e : Env} {s : State} {m : MethodId} {below : List Frame} {meth : Method} {c : Code} {b L : Nat} {xs : Nat → Int32} {Gc Gm : hp_G} {i : Nat} {C M : hp_H} (X : lx p s m meth c b L xs Gc Gm) (hi : i + 7 ≤ L) (h : iv C M) (rC : hp_in C) (rM : hp_in M) (kk : ∀ C2 M2, iv C2 M2 → hp_in C2 → hp_in M2 → lr l p e s m below meth c b Gc Gm 1538 i [] C2 M2) : lr l p e s m below meth c b Gc Gm 1525 i [] C M := by
  obtain ⟨x, M2, e1, e2, h2⟩ := op_status h  
  refine l_aload1 X dL_law_1525 ?_
  refine l_callC X (ok_X7_status X.2.2.1  C  rC x e1) cal_X7_status rfl ins_X7_status sel_X7_status wm_847 (by decide) (by decide) rfl rfl (Nat.le_of_ble_eq_true rfl) dL_law_1526 (fun hz => ?_)
  refine l_aload2 X dL_law_1529 ?_
  refine l_callM X (ok_X8_status X.2.2.2.1  M  rM (x, M2) e2) cal_X8_status rfl ins_X8_status sel_X8_status wm_1285 (by decide) (by decide) rfl rfl (Nat.le_of_ble_eq_true rfl) dL_law_1530 (fun hz2 => ?_)
  exact l_eq X dL_law_1533 (by decide) (kk C M2 h2 rC hz2.2)
