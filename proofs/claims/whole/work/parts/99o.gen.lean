/-! the law's cases (by program, llaw.py) -/
section CASES
variable {p : Program} {l : Launch} {e : Env} {s : State} {m : MethodId} {below : List Frame} {meth : Method} {c : Code} {b L : Nat} {xs : Nat → Int32} {D : va_G} {cA : Nat → ClassId} {w0 : WT} {aX aM : Nat}
theorem rest_le2 (r : Option AV) {ad : Nat → Nat} : (((r.map (cv w0 ad)).toList ++ ([] : List Value)).map fun v => v.category).sum ≤ 8 := by
  rw [List.append_nil]
  exact rest_le r
set_option maxHeartbeats 2000000 in
theorem case_house {n i N : Nat} {hX hM : AH} (C : LwE p s m meth c b L xs D cA w0) (R : RR n hX hM) (hn : n < 512) (hi : i + 6 ≤ L) (hN : N + 999 ≤ 600000) (kk : ∀ hX' hM', RR (n + 1) hX' hM' → LJ p l e s m below meth c b D cA w0 aX aM GX GM (N + 999) 1323 (loc4 b aX aM i) [] hX' hM') : LJ p l e s m below meth c b D cA w0 aX aM GX GM N 216 (loc4 b aX aM i) [] hX hM := by
  refine LJ_x C dL_law_216 ?_
  refine LJ_arg C (k := 1) (by omega) dL_law_217 dL_law_218 dL_law_219 dL_law_220 dL_law_221 ?_
  refine LJ_callX (N := N) (d := 1) (b1 := 0) (zs := [xs (i + 1)]) (rest := []) C (Or.inl rfl) ml_RL_13 rfl (Nat.le_of_ble_eq_true rfl) rfl (Nat.zero_le _) dL_law_222 (Nat.le_of_ble_eq_true rfl) (by omega) (q_house (dx := 0) (dm := 0) R hn (fun rx hX1 hm => hm)) (fun rx hX1 adx hm => ?_)
  refine LJ_m C dL_law_225 ?_
  refine LJ_arg C (k := 1) (by omega) dL_law_226 dL_law_227 dL_law_228 dL_law_229 dL_law_230 ?_
  refine LJ_callM (N := N + 0) (d := 1) (b1 := 0) (zs := [xs (i + 1)]) (rest := (rx.map (cv w0 adx)).toList ++ []) C (Or.inl rfl) ml_RL_17 rfl (Nat.le_of_ble_eq_true rfl) rfl (rest_le2 rx) dL_law_231 (Nat.le_of_ble_eq_true rfl) (by omega) hm (fun rm hM1 adm hr => ?_)
  obtain ⟨v, rfl, rfl, R1⟩ := hr
  exact LJ_same C dL_law_234 (by decide) (LJ_le (by omega) (kk hX1 hM1 R1))
set_option maxHeartbeats 2000000 in
theorem case_door {n i N : Nat} {hX hM : AH} (C : LwE p s m meth c b L xs D cA w0) (R : RR n hX hM) (hn : n < 512) (hi : i + 6 ≤ L) (hN : N + 999 ≤ 600000) (kk : ∀ hX' hM', RR (n + 1) hX' hM' → LJ p l e s m below meth c b D cA w0 aX aM GX GM (N + 999) 1323 (loc4 b aX aM i) [] hX' hM') : LJ p l e s m below meth c b D cA w0 aX aM GX GM N 239 (loc4 b aX aM i) [] hX hM := by
  refine LJ_x C dL_law_239 ?_
  refine LJ_arg C (k := 1) (by omega) dL_law_240 dL_law_241 dL_law_242 dL_law_243 dL_law_244 ?_
  refine LJ_arg C (k := 2) (by omega) dL_law_245 dL_law_246 dL_law_247 dL_law_248 dL_law_249 ?_
  refine LJ_arg C (k := 3) (by omega) dL_law_250 dL_law_251 dL_law_252 dL_law_253 dL_law_254 ?_
  refine LJ_arg C (k := 4) (by omega) dL_law_255 dL_law_256 dL_law_257 dL_law_258 dL_law_259 ?_
  refine LJ_callX (N := N) (d := 1) (b1 := 0) (zs := [xs (i + 1), xs (i + 2), xs (i + 3), xs (i + 4)]) (rest := []) C (Or.inl rfl) ml_RL_18 rfl (Nat.le_of_ble_eq_true rfl) rfl (Nat.zero_le _) dL_law_260 (Nat.le_of_ble_eq_true rfl) (by omega) (q_door (dx := 0) (dm := 0) R hn (fun rx hX1 hm => hm)) (fun rx hX1 adx hm => ?_)
  refine LJ_m C dL_law_263 ?_
  refine LJ_arg C (k := 1) (by omega) dL_law_264 dL_law_265 dL_law_266 dL_law_267 dL_law_268 ?_
  refine LJ_arg C (k := 2) (by omega) dL_law_269 dL_law_270 dL_law_271 dL_law_272 dL_law_273 ?_
  refine LJ_arg C (k := 3) (by omega) dL_law_274 dL_law_275 dL_law_276 dL_law_277 dL_law_278 ?_
  refine LJ_arg C (k := 4) (by omega) dL_law_279 dL_law_280 dL_law_281 dL_law_282 dL_law_283 ?_
  refine LJ_callM (N := N + 0) (d := 2) (b1 := 0) (zs := [xs (i + 1), xs (i + 2), xs (i + 3), xs (i + 4)]) (rest := (rx.map (cv w0 adx)).toList ++ []) C (Or.inl rfl) ml_RL_22 rfl (Nat.le_of_ble_eq_true rfl) rfl (rest_le2 rx) dL_law_284 (Nat.le_of_ble_eq_true rfl) (by omega) hm (fun rm hM1 adm hr => ?_)
  obtain ⟨v, rfl, rfl, R1⟩ := hr
  exact LJ_same C dL_law_287 (by decide) (LJ_le (by omega) (kk hX1 hM1 R1))
set_option maxHeartbeats 2000000 in
theorem case_of {n i N : Nat} {hX hM : AH} (C : LwE p s m meth c b L xs D cA w0) (R : RR n hX hM) (hn : n < 512) (hi : i + 6 ≤ L) (hN : N + 999 ≤ 600000) (kk : ∀ hX' hM', RR (n + 1) hX' hM' → LJ p l e s m below meth c b D cA w0 aX aM GX GM (N + 999) 1323 (loc4 b aX aM i) [] hX' hM') : LJ p l e s m below meth c b D cA w0 aX aM GX GM N 292 (loc4 b aX aM i) [] hX hM := by
  refine LJ_x C dL_law_292 ?_
  refine LJ_arg C (k := 1) (by omega) dL_law_293 dL_law_294 dL_law_295 dL_law_296 dL_law_297 ?_
  refine LJ_arg C (k := 2) (by omega) dL_law_298 dL_law_299 dL_law_300 dL_law_301 dL_law_302 ?_
  refine LJ_callX (N := N) (d := 4) (b1 := 0) (zs := [xs (i + 1), xs (i + 2)]) (rest := []) C (Or.inl rfl) ml_RL_23 rfl (Nat.le_of_ble_eq_true rfl) rfl (Nat.zero_le _) dL_law_303 (Nat.le_of_ble_eq_true rfl) (by omega) (q_of (dx := 0) (dm := 0) R hn (fun rx hX1 hm => hm)) (fun rx hX1 adx hm => ?_)
  refine LJ_m C dL_law_306 ?_
  refine LJ_arg C (k := 1) (by omega) dL_law_307 dL_law_308 dL_law_309 dL_law_310 dL_law_311 ?_
  refine LJ_arg C (k := 2) (by omega) dL_law_312 dL_law_313 dL_law_314 dL_law_315 dL_law_316 ?_
  refine LJ_callM (N := N + 0) (d := 6) (b1 := 0) (zs := [xs (i + 1), xs (i + 2)]) (rest := (rx.map (cv w0 adx)).toList ++ []) C (Or.inl rfl) ml_RL_27 rfl (Nat.le_of_ble_eq_true rfl) rfl (rest_le2 rx) dL_law_317 (Nat.le_of_ble_eq_true rfl) (by omega) hm (fun rm hM1 adm hr => ?_)
  obtain ⟨v, rfl, rfl, R1⟩ := hr
  exact LJ_same C dL_law_320 (by decide) (LJ_le (by omega) (kk hX1 hM1 R1))
set_option maxHeartbeats 2000000 in
theorem case_frame {n i N : Nat} {hX hM : AH} (C : LwE p s m meth c b L xs D cA w0) (R : RR n hX hM) (hn : n < 512) (hi : i + 6 ≤ L) (hN : N + 999 ≤ 600000) (kk : ∀ hX' hM', RR (n + 1) hX' hM' → LJ p l e s m below meth c b D cA w0 aX aM GX GM (N + 999) 1323 (loc4 b aX aM i) [] hX' hM') : LJ p l e s m below meth c b D cA w0 aX aM GX GM N 325 (loc4 b aX aM i) [] hX hM := by
  refine LJ_x C dL_law_325 ?_
  refine LJ_arg C (k := 1) (by omega) dL_law_326 dL_law_327 dL_law_328 dL_law_329 dL_law_330 ?_
  refine LJ_arg C (k := 2) (by omega) dL_law_331 dL_law_332 dL_law_333 dL_law_334 dL_law_335 ?_
  refine LJ_callX (N := N) (d := 4) (b1 := 0) (zs := [xs (i + 1), xs (i + 2)]) (rest := []) C (Or.inl rfl) ml_RL_28 rfl (Nat.le_of_ble_eq_true rfl) rfl (Nat.zero_le _) dL_law_336 (Nat.le_of_ble_eq_true rfl) (by omega) (q_frame (dx := 0) (dm := 0) R hn (fun rx hX1 hm => hm)) (fun rx hX1 adx hm => ?_)
  refine LJ_m C dL_law_339 ?_
  refine LJ_arg C (k := 1) (by omega) dL_law_340 dL_law_341 dL_law_342 dL_law_343 dL_law_344 ?_
  refine LJ_arg C (k := 2) (by omega) dL_law_345 dL_law_346 dL_law_347 dL_law_348 dL_law_349 ?_
  refine LJ_callM (N := N + 0) (d := 6) (b1 := 0) (zs := [xs (i + 1), xs (i + 2)]) (rest := (rx.map (cv w0 adx)).toList ++ []) C (Or.inl rfl) ml_RL_31 rfl (Nat.le_of_ble_eq_true rfl) rfl (rest_le2 rx) dL_law_350 (Nat.le_of_ble_eq_true rfl) (by omega) hm (fun rm hM1 adm hr => ?_)
  obtain ⟨v, rfl, rfl, R1⟩ := hr
  exact LJ_same C dL_law_353 (by decide) (LJ_le (by omega) (kk hX1 hM1 R1))
set_option maxHeartbeats 2000000 in
theorem case_put {n i N : Nat} {hX hM : AH} (C : LwE p s m meth c b L xs D cA w0) (R : RR n hX hM) (hn : n < 512) (hi : i + 6 ≤ L) (hN : N + 999 ≤ 600000) (kk : ∀ hX' hM', RR (n + 1) hX' hM' → LJ p l e s m below meth c b D cA w0 aX aM GX GM (N + 999) 1323 (loc4 b aX aM i) [] hX' hM') : LJ p l e s m below meth c b D cA w0 aX aM GX GM N 358 (loc4 b aX aM i) [] hX hM := by
  refine LJ_x C dL_law_358 ?_
  refine LJ_arg C (k := 1) (by omega) dL_law_359 dL_law_360 dL_law_361 dL_law_362 dL_law_363 ?_
  refine LJ_arg C (k := 2) (by omega) dL_law_364 dL_law_365 dL_law_366 dL_law_367 dL_law_368 ?_
  refine LJ_arg C (k := 3) (by omega) dL_law_369 dL_law_370 dL_law_371 dL_law_372 dL_law_373 ?_
  refine LJ_callX (N := N) (d := 1) (b1 := 0) (zs := [xs (i + 1), xs (i + 2), xs (i + 3)]) (rest := []) C (Or.inl rfl) ml_RL_32 rfl (Nat.le_of_ble_eq_true rfl) rfl (Nat.zero_le _) dL_law_374 (Nat.le_of_ble_eq_true rfl) (by omega) (q_put (dx := 0) (dm := 0) R hn (fun rx hX1 hm => hm)) (fun rx hX1 adx hm => ?_)
  refine LJ_m C dL_law_377 ?_
  refine LJ_arg C (k := 1) (by omega) dL_law_378 dL_law_379 dL_law_380 dL_law_381 dL_law_382 ?_
  refine LJ_arg C (k := 2) (by omega) dL_law_383 dL_law_384 dL_law_385 dL_law_386 dL_law_387 ?_
  refine LJ_arg C (k := 3) (by omega) dL_law_388 dL_law_389 dL_law_390 dL_law_391 dL_law_392 ?_
  refine LJ_callM (N := N + 0) (d := 2) (b1 := 0) (zs := [xs (i + 1), xs (i + 2), xs (i + 3)]) (rest := (rx.map (cv w0 adx)).toList ++ []) C (Or.inl rfl) ml_RL_36 rfl (Nat.le_of_ble_eq_true rfl) rfl (rest_le2 rx) dL_law_393 (Nat.le_of_ble_eq_true rfl) (by omega) hm (fun rm hM1 adm hr => ?_)
  obtain ⟨v, rfl, rfl, R1⟩ := hr
  exact LJ_same C dL_law_396 (by decide) (LJ_le (by omega) (kk hX1 hM1 R1))
set_option maxHeartbeats 2000000 in
theorem case_at {n i N : Nat} {hX hM : AH} (C : LwE p s m meth c b L xs D cA w0) (R : RR n hX hM) (hn : n < 512) (hi : i + 6 ≤ L) (hN : N + 999 ≤ 600000) (kk : ∀ hX' hM', RR (n + 1) hX' hM' → LJ p l e s m below meth c b D cA w0 aX aM GX GM (N + 999) 1323 (loc4 b aX aM i) [] hX' hM') : LJ p l e s m below meth c b D cA w0 aX aM GX GM N 401 (loc4 b aX aM i) [] hX hM := by
  refine LJ_x C dL_law_401 ?_
  refine LJ_arg C (k := 1) (by omega) dL_law_402 dL_law_403 dL_law_404 dL_law_405 dL_law_406 ?_
  refine LJ_arg C (k := 2) (by omega) dL_law_407 dL_law_408 dL_law_409 dL_law_410 dL_law_411 ?_
  refine LJ_callX (N := N) (d := 1) (b1 := 0) (zs := [xs (i + 1), xs (i + 2)]) (rest := []) C (Or.inl rfl) ml_RL_37 rfl (Nat.le_of_ble_eq_true rfl) rfl (Nat.zero_le _) dL_law_412 (Nat.le_of_ble_eq_true rfl) (by omega) (q_at (dx := 0) (dm := 0) R hn (fun rx hX1 hm => hm)) (fun rx hX1 adx hm => ?_)
  refine LJ_m C dL_law_415 ?_
  refine LJ_arg C (k := 1) (by omega) dL_law_416 dL_law_417 dL_law_418 dL_law_419 dL_law_420 ?_
  refine LJ_arg C (k := 2) (by omega) dL_law_421 dL_law_422 dL_law_423 dL_law_424 dL_law_425 ?_
  refine LJ_callM (N := N + 0) (d := 2) (b1 := 0) (zs := [xs (i + 1), xs (i + 2)]) (rest := (rx.map (cv w0 adx)).toList ++ []) C (Or.inl rfl) ml_RL_40 rfl (Nat.le_of_ble_eq_true rfl) rfl (rest_le2 rx) dL_law_426 (Nat.le_of_ble_eq_true rfl) (by omega) hm (fun rm hM1 adm hr => ?_)
  obtain ⟨v, rfl, rfl, R1⟩ := hr
  exact LJ_same C dL_law_429 (by decide) (LJ_le (by omega) (kk hX1 hM1 R1))
set_option maxHeartbeats 2000000 in
theorem case_asks {n i N : Nat} {hX hM : AH} (C : LwE p s m meth c b L xs D cA w0) (R : RR n hX hM) (hn : n < 512) (hi : i + 6 ≤ L) (hN : N + 999 ≤ 600000) (kk : ∀ hX' hM', RR (n + 1) hX' hM' → LJ p l e s m below meth c b D cA w0 aX aM GX GM (N + 999) 1323 (loc4 b aX aM i) [] hX' hM') : LJ p l e s m below meth c b D cA w0 aX aM GX GM N 434 (loc4 b aX aM i) [] hX hM := by
  refine LJ_x C dL_law_434 ?_
  refine LJ_arg C (k := 1) (by omega) dL_law_435 dL_law_436 dL_law_437 dL_law_438 dL_law_439 ?_
  refine LJ_arg C (k := 2) (by omega) dL_law_440 dL_law_441 dL_law_442 dL_law_443 dL_law_444 ?_
  refine LJ_arg C (k := 3) (by omega) dL_law_445 dL_law_446 dL_law_447 dL_law_448 dL_law_449 ?_
  refine LJ_callX (N := N) (d := 4) (b1 := 0) (zs := [xs (i + 1), xs (i + 2), xs (i + 3)]) (rest := []) C (Or.inl rfl) ml_RL_41 rfl (Nat.le_of_ble_eq_true rfl) rfl (Nat.zero_le _) dL_law_450 (Nat.le_of_ble_eq_true rfl) (by omega) (q_asks (dx := 0) (dm := 0) R hn (fun rx hX1 hm => hm)) (fun rx hX1 adx hm => ?_)
  refine LJ_m C dL_law_453 ?_
  refine LJ_arg C (k := 1) (by omega) dL_law_454 dL_law_455 dL_law_456 dL_law_457 dL_law_458 ?_
  refine LJ_arg C (k := 2) (by omega) dL_law_459 dL_law_460 dL_law_461 dL_law_462 dL_law_463 ?_
  refine LJ_arg C (k := 3) (by omega) dL_law_464 dL_law_465 dL_law_466 dL_law_467 dL_law_468 ?_
  refine LJ_callM (N := N + 0) (d := 6) (b1 := 0) (zs := [xs (i + 1), xs (i + 2), xs (i + 3)]) (rest := (rx.map (cv w0 adx)).toList ++ []) C (Or.inl rfl) ml_RL_44 rfl (Nat.le_of_ble_eq_true rfl) rfl (rest_le2 rx) dL_law_469 (Nat.le_of_ble_eq_true rfl) (by omega) hm (fun rm hM1 adm hr => ?_)
  obtain ⟨v, rfl, rfl, R1⟩ := hr
  exact LJ_same C dL_law_472 (by decide) (LJ_le (by omega) (kk hX1 hM1 R1))
set_option maxHeartbeats 2000000 in
theorem case_foe {n i N : Nat} {hX hM : AH} (C : LwE p s m meth c b L xs D cA w0) (R : RR n hX hM) (hn : n < 512) (hi : i + 6 ≤ L) (hN : N + 999 ≤ 600000) (kk : ∀ hX' hM', RR (n + 1) hX' hM' → LJ p l e s m below meth c b D cA w0 aX aM GX GM (N + 999) 1323 (loc4 b aX aM i) [] hX' hM') : LJ p l e s m below meth c b D cA w0 aX aM GX GM N 477 (loc4 b aX aM i) [] hX hM := by
  refine LJ_x C dL_law_477 ?_
  refine LJ_arg C (k := 1) (by omega) dL_law_478 dL_law_479 dL_law_480 dL_law_481 dL_law_482 ?_
  refine LJ_callX (N := N) (d := 1) (b1 := 0) (zs := [xs (i + 1)]) (rest := []) C (Or.inl rfl) ml_RL_45 rfl (Nat.le_of_ble_eq_true rfl) rfl (Nat.zero_le _) dL_law_483 (Nat.le_of_ble_eq_true rfl) (by omega) (q_foe (dx := 0) (dm := 0) R hn (fun rx hX1 hm => hm)) (fun rx hX1 adx hm => ?_)
  refine LJ_m C dL_law_486 ?_
  refine LJ_arg C (k := 1) (by omega) dL_law_487 dL_law_488 dL_law_489 dL_law_490 dL_law_491 ?_
  refine LJ_callM (N := N + 0) (d := 1) (b1 := 0) (zs := [xs (i + 1)]) (rest := (rx.map (cv w0 adx)).toList ++ []) C (Or.inl rfl) ml_RL_48 rfl (Nat.le_of_ble_eq_true rfl) rfl (rest_le2 rx) dL_law_492 (Nat.le_of_ble_eq_true rfl) (by omega) hm (fun rm hM1 adm hr => ?_)
  obtain ⟨v, rfl, rfl, R1⟩ := hr
  exact LJ_same C dL_law_495 (by decide) (LJ_le (by omega) (kk hX1 hM1 R1))
set_option maxHeartbeats 2000000 in
theorem case_peace {n i N : Nat} {hX hM : AH} (C : LwE p s m meth c b L xs D cA w0) (R : RR n hX hM) (hn : n < 512) (hi : i + 6 ≤ L) (hN : N + 999 ≤ 600000) (kk : ∀ hX' hM', RR (n + 1) hX' hM' → LJ p l e s m below meth c b D cA w0 aX aM GX GM (N + 999) 1323 (loc4 b aX aM i) [] hX' hM') : LJ p l e s m below meth c b D cA w0 aX aM GX GM N 500 (loc4 b aX aM i) [] hX hM := by
  refine LJ_x C dL_law_500 ?_
  refine LJ_callX (N := N) (d := 0) (b1 := 0) (zs := []) (rest := []) C (Or.inl rfl) ml_RL_49 rfl (Nat.le_of_ble_eq_true rfl) rfl (Nat.zero_le _) dL_law_501 (Nat.le_of_ble_eq_true rfl) (by omega) (q_peace (dx := 0) (dm := 0) R hn (fun rx hX1 hm => hm)) (fun rx hX1 adx hm => ?_)
  refine LJ_m C dL_law_504 ?_
  refine LJ_callM (N := N + 0) (d := 0) (b1 := 0) (zs := []) (rest := (rx.map (cv w0 adx)).toList ++ []) C (Or.inl rfl) ml_RL_53 rfl (Nat.le_of_ble_eq_true rfl) rfl (rest_le2 rx) dL_law_505 (Nat.le_of_ble_eq_true rfl) (by omega) hm (fun rm hM1 adm hr => ?_)
  obtain ⟨v, rfl, rfl, R1⟩ := hr
  exact LJ_same C dL_law_508 (by decide) (LJ_le (by omega) (kk hX1 hM1 R1))
set_option maxHeartbeats 2000000 in
theorem case_terms {n i N : Nat} {hX hM : AH} (C : LwE p s m meth c b L xs D cA w0) (R : RR n hX hM) (hn : n < 512) (hi : i + 6 ≤ L) (hN : N + 999 ≤ 600000) (kk : ∀ hX' hM', RR (n + 1) hX' hM' → LJ p l e s m below meth c b D cA w0 aX aM GX GM (N + 999) 1323 (loc4 b aX aM i) [] hX' hM') : LJ p l e s m below meth c b D cA w0 aX aM GX GM N 513 (loc4 b aX aM i) [] hX hM := by
  refine LJ_x C dL_law_513 ?_
  refine LJ_arg C (k := 1) (by omega) dL_law_514 dL_law_515 dL_law_516 dL_law_517 dL_law_518 ?_
  refine LJ_arg C (k := 2) (by omega) dL_law_519 dL_law_520 dL_law_521 dL_law_522 dL_law_523 ?_
  refine LJ_callX (N := N) (d := 1) (b1 := 0) (zs := [xs (i + 1), xs (i + 2)]) (rest := []) C (Or.inl rfl) ml_RL_54 rfl (Nat.le_of_ble_eq_true rfl) rfl (Nat.zero_le _) dL_law_524 (Nat.le_of_ble_eq_true rfl) (by omega) (q_terms (dx := 0) (dm := 0) R hn (fun rx hX1 hm => hm)) (fun rx hX1 adx hm => ?_)
  refine LJ_m C dL_law_527 ?_
  refine LJ_arg C (k := 1) (by omega) dL_law_528 dL_law_529 dL_law_530 dL_law_531 dL_law_532 ?_
  refine LJ_arg C (k := 2) (by omega) dL_law_533 dL_law_534 dL_law_535 dL_law_536 dL_law_537 ?_
  refine LJ_callM (N := N + 0) (d := 1) (b1 := 0) (zs := [xs (i + 1), xs (i + 2)]) (rest := (rx.map (cv w0 adx)).toList ++ []) C (Or.inl rfl) ml_RL_57 rfl (Nat.le_of_ble_eq_true rfl) rfl (rest_le2 rx) dL_law_538 (Nat.le_of_ble_eq_true rfl) (by omega) hm (fun rm hM1 adm hr => ?_)
  obtain ⟨v, rfl, rfl, R1⟩ := hr
  exact LJ_same C dL_law_541 (by decide) (LJ_le (by omega) (kk hX1 hM1 R1))
set_option maxHeartbeats 2000000 in
theorem case_feed {n i N : Nat} {hX hM : AH} (C : LwE p s m meth c b L xs D cA w0) (R : RR n hX hM) (hn : n < 512) (hi : i + 6 ≤ L) (hN : N + 999 ≤ 600000) (kk : ∀ hX' hM', RR (n + 1) hX' hM' → LJ p l e s m below meth c b D cA w0 aX aM GX GM (N + 999) 1323 (loc4 b aX aM i) [] hX' hM') : LJ p l e s m below meth c b D cA w0 aX aM GX GM N 546 (loc4 b aX aM i) [] hX hM := by
  refine LJ_x C dL_law_546 ?_
  refine LJ_arg C (k := 1) (by omega) dL_law_547 dL_law_548 dL_law_549 dL_law_550 dL_law_551 ?_
  refine LJ_arg C (k := 2) (by omega) dL_law_552 dL_law_553 dL_law_554 dL_law_555 dL_law_556 ?_
  refine LJ_arg C (k := 3) (by omega) dL_law_557 dL_law_558 dL_law_559 dL_law_560 dL_law_561 ?_
  refine LJ_arg C (k := 4) (by omega) dL_law_562 dL_law_563 dL_law_564 dL_law_565 dL_law_566 ?_
  refine LJ_arg C (k := 5) (by omega) dL_law_567 dL_law_568 dL_law_569 dL_law_570 dL_law_571 ?_
  refine LJ_callX (N := N) (d := 1) (b1 := 0) (zs := [xs (i + 1), xs (i + 2), xs (i + 3), xs (i + 4), xs (i + 5)]) (rest := []) C (Or.inl rfl) ml_RL_58 rfl (Nat.le_of_ble_eq_true rfl) rfl (Nat.zero_le _) dL_law_572 (Nat.le_of_ble_eq_true rfl) (by omega) (q_feed (dx := 0) (dm := 0) R hn (fun rx hX1 hm => hm)) (fun rx hX1 adx hm => ?_)
  refine LJ_m C dL_law_575 ?_
  refine LJ_arg C (k := 1) (by omega) dL_law_576 dL_law_577 dL_law_578 dL_law_579 dL_law_580 ?_
  refine LJ_arg C (k := 2) (by omega) dL_law_581 dL_law_582 dL_law_583 dL_law_584 dL_law_585 ?_
  refine LJ_arg C (k := 3) (by omega) dL_law_586 dL_law_587 dL_law_588 dL_law_589 dL_law_590 ?_
  refine LJ_arg C (k := 4) (by omega) dL_law_591 dL_law_592 dL_law_593 dL_law_594 dL_law_595 ?_
  refine LJ_arg C (k := 5) (by omega) dL_law_596 dL_law_597 dL_law_598 dL_law_599 dL_law_600 ?_
  refine LJ_callM (N := N + 0) (d := 1) (b1 := 0) (zs := [xs (i + 1), xs (i + 2), xs (i + 3), xs (i + 4), xs (i + 5)]) (rest := (rx.map (cv w0 adx)).toList ++ []) C (Or.inl rfl) ml_RL_62 rfl (Nat.le_of_ble_eq_true rfl) rfl (rest_le2 rx) dL_law_601 (Nat.le_of_ble_eq_true rfl) (by omega) hm (fun rm hM1 adm hr => ?_)
  obtain ⟨v, rfl, rfl, R1⟩ := hr
  exact LJ_same C dL_law_604 (by decide) (LJ_le (by omega) (kk hX1 hM1 R1))
set_option maxHeartbeats 2000000 in
theorem case_end {n i N : Nat} {hX hM : AH} (C : LwE p s m meth c b L xs D cA w0) (R : RR n hX hM) (hn : n < 512) (hi : i + 6 ≤ L) (hN : N + 999 ≤ 600000) (kk : ∀ hX' hM', RR (n + 1) hX' hM' → LJ p l e s m below meth c b D cA w0 aX aM GX GM (N + 999) 1323 (loc4 b aX aM i) [] hX' hM') : LJ p l e s m below meth c b D cA w0 aX aM GX GM N 609 (loc4 b aX aM i) [] hX hM := by
  refine LJ_x C dL_law_609 ?_
  refine LJ_arg C (k := 1) (by omega) dL_law_610 dL_law_611 dL_law_612 dL_law_613 dL_law_614 ?_
  refine LJ_callX (N := N) (d := 0) (b1 := 0) (zs := [xs (i + 1)]) (rest := []) C (Or.inl rfl) ml_RL_63 rfl (Nat.le_of_ble_eq_true rfl) rfl (Nat.zero_le _) dL_law_615 (Nat.le_of_ble_eq_true rfl) (by omega) (q_end (dx := 0) (dm := 0) R hn (fun rx hX1 hm => hm)) (fun rx hX1 adx hm => ?_)
  refine LJ_m C dL_law_618 ?_
  refine LJ_arg C (k := 1) (by omega) dL_law_619 dL_law_620 dL_law_621 dL_law_622 dL_law_623 ?_
  refine LJ_callM (N := N + 0) (d := 0) (b1 := 0) (zs := [xs (i + 1)]) (rest := (rx.map (cv w0 adx)).toList ++ []) C (Or.inl rfl) ml_RL_66 rfl (Nat.le_of_ble_eq_true rfl) rfl (rest_le2 rx) dL_law_624 (Nat.le_of_ble_eq_true rfl) (by omega) hm (fun rm hM1 adm hr => ?_)
  obtain ⟨v, rfl, rfl, R1⟩ := hr
  exact LJ_same C dL_law_627 (by decide) (LJ_le (by omega) (kk hX1 hM1 R1))
set_option maxHeartbeats 2000000 in
theorem case_row {n i N : Nat} {hX hM : AH} (C : LwE p s m meth c b L xs D cA w0) (R : RR n hX hM) (hn : n < 512) (hi : i + 6 ≤ L) (hN : N + 999 ≤ 600000) (kk : ∀ hX' hM', RR (n + 1) hX' hM' → LJ p l e s m below meth c b D cA w0 aX aM GX GM (N + 999) 1323 (loc4 b aX aM i) [] hX' hM') : LJ p l e s m below meth c b D cA w0 aX aM GX GM N 632 (loc4 b aX aM i) [] hX hM := by
  refine LJ_x C dL_law_632 ?_
  refine LJ_callX (N := N) (d := 1) (b1 := 0) (zs := []) (rest := []) C (Or.inl rfl) ml_RL_67 rfl (Nat.le_of_ble_eq_true rfl) rfl (Nat.zero_le _) dL_law_633 (Nat.le_of_ble_eq_true rfl) (by omega) (q_row (dx := 0) (dm := 0) R hn (fun rx hX1 hm => hm)) (fun rx hX1 adx hm => ?_)
  refine LJ_m C dL_law_636 ?_
  refine LJ_callM (N := N + 0) (d := 2) (b1 := 0) (zs := []) (rest := (rx.map (cv w0 adx)).toList ++ []) C (Or.inl rfl) ml_RL_70 rfl (Nat.le_of_ble_eq_true rfl) rfl (rest_le2 rx) dL_law_637 (Nat.le_of_ble_eq_true rfl) (by omega) hm (fun rm hM1 adm hr => ?_)
  obtain ⟨v, rfl, rfl, R1⟩ := hr
  exact LJ_same C dL_law_640 (by decide) (LJ_le (by omega) (kk hX1 hM1 R1))
set_option maxHeartbeats 2000000 in
theorem case_foam {n i N : Nat} {hX hM : AH} (C : LwE p s m meth c b L xs D cA w0) (R : RR n hX hM) (hn : n < 512) (hi : i + 6 ≤ L) (hN : N + 999 ≤ 600000) (kk : ∀ hX' hM', RR (n + 1) hX' hM' → LJ p l e s m below meth c b D cA w0 aX aM GX GM (N + 999) 1323 (loc4 b aX aM i) [] hX' hM') : LJ p l e s m below meth c b D cA w0 aX aM GX GM N 645 (loc4 b aX aM i) [] hX hM := by
  refine LJ_x C dL_law_645 ?_
  refine LJ_callX (N := N) (d := 0) (b1 := 0) (zs := []) (rest := []) C (Or.inl rfl) ml_RL_71 rfl (Nat.le_of_ble_eq_true rfl) rfl (Nat.zero_le _) dL_law_646 (Nat.le_of_ble_eq_true rfl) (by omega) (q_foam (dx := 0) (dm := 0) R hn (fun rx hX1 hm => hm)) (fun rx hX1 adx hm => ?_)
  refine LJ_m C dL_law_649 ?_
  refine LJ_callM (N := N + 0) (d := 0) (b1 := 0) (zs := []) (rest := (rx.map (cv w0 adx)).toList ++ []) C (Or.inl rfl) ml_RL_74 rfl (Nat.le_of_ble_eq_true rfl) rfl (rest_le2 rx) dL_law_650 (Nat.le_of_ble_eq_true rfl) (by omega) hm (fun rm hM1 adm hr => ?_)
  obtain ⟨v, rfl, rfl, R1⟩ := hr
  exact LJ_same C dL_law_653 (by decide) (LJ_le (by omega) (kk hX1 hM1 R1))
set_option maxHeartbeats 2000000 in
theorem case_law {n i N : Nat} {hX hM : AH} (C : LwE p s m meth c b L xs D cA w0) (R : RR n hX hM) (hn : n < 512) (hi : i + 6 ≤ L) (hN : N + 999 ≤ 600000) (kk : ∀ hX' hM', RR (n + 1) hX' hM' → LJ p l e s m below meth c b D cA w0 aX aM GX GM (N + 999) 1323 (loc4 b aX aM i) [] hX' hM') : LJ p l e s m below meth c b D cA w0 aX aM GX GM N 658 (loc4 b aX aM i) [] hX hM := by
  refine LJ_x C dL_law_658 ?_
  refine LJ_callX (N := N) (d := 33) (b1 := 999) (zs := []) (rest := []) C (Or.inl rfl) ml_RL_75 rfl (Nat.le_of_ble_eq_true rfl) rfl (Nat.zero_le _) dL_law_659 (Nat.le_of_ble_eq_true rfl) (by omega) (q_law (e := 0) (b := 0) (dm := 0) R hn (fun rx hX1 hm => hm)) (fun rx hX1 adx hm => ?_)
  refine LJ_m C dL_law_662 ?_
  refine LJ_callM (N := N + 999) (d := 8) (b1 := 0) (zs := []) (rest := (rx.map (cv w0 adx)).toList ++ []) C (Or.inl rfl) ml_RL_78 rfl (Nat.le_of_ble_eq_true rfl) rfl (rest_le2 rx) dL_law_663 (Nat.le_of_ble_eq_true rfl) (by omega) hm (fun rm hM1 adm hr => ?_)
  obtain ⟨v, rfl, rfl, R1⟩ := hr
  exact LJ_same C dL_law_666 (by decide) (LJ_le (by omega) (kk hX1 hM1 R1))
set_option maxHeartbeats 2000000 in
theorem case_orders {n i N : Nat} {hX hM : AH} (C : LwE p s m meth c b L xs D cA w0) (R : RR n hX hM) (hn : n < 512) (hi : i + 6 ≤ L) (hN : N + 999 ≤ 600000) (kk : ∀ hX' hM', RR (n + 1) hX' hM' → LJ p l e s m below meth c b D cA w0 aX aM GX GM (N + 999) 1323 (loc4 b aX aM i) [] hX' hM') : LJ p l e s m below meth c b D cA w0 aX aM GX GM N 671 (loc4 b aX aM i) [] hX hM := by
  refine LJ_x C dL_law_671 ?_
  refine LJ_callX (N := N) (d := 33) (b1 := 0) (zs := []) (rest := []) C (Or.inl rfl) ml_RL_79 rfl (Nat.le_of_ble_eq_true rfl) rfl (Nat.zero_le _) dL_law_672 (Nat.le_of_ble_eq_true rfl) (by omega) (q_orders (e := 0) (b := 0) (dm := 0) R hn (fun rx hX1 hm => hm)) (fun rx hX1 adx hm => ?_)
  refine LJ_m C dL_law_675 ?_
  refine LJ_callM (N := N + 0) (d := 10) (b1 := 0) (zs := []) (rest := (rx.map (cv w0 adx)).toList ++ []) C (Or.inl rfl) ml_RL_82 rfl (Nat.le_of_ble_eq_true rfl) rfl (rest_le2 rx) dL_law_676 (Nat.le_of_ble_eq_true rfl) (by omega) hm (fun rm hM1 adm hr => ?_)
  obtain ⟨v, rfl, rfl, R1⟩ := hr
  exact LJ_same C dL_law_679 (by decide) (LJ_le (by omega) (kk hX1 hM1 R1))
set_option maxHeartbeats 2000000 in
theorem case_fault {n i N : Nat} {hX hM : AH} (C : LwE p s m meth c b L xs D cA w0) (R : RR n hX hM) (hn : n < 512) (hi : i + 6 ≤ L) (hN : N + 999 ≤ 600000) (kk : ∀ hX' hM', RR (n + 1) hX' hM' → LJ p l e s m below meth c b D cA w0 aX aM GX GM (N + 999) 1323 (loc4 b aX aM i) [] hX' hM') : LJ p l e s m below meth c b D cA w0 aX aM GX GM N 684 (loc4 b aX aM i) [] hX hM := by
  refine LJ_x C dL_law_684 ?_
  refine LJ_callX (N := N) (d := 0) (b1 := 0) (zs := []) (rest := []) C (Or.inl rfl) ml_RL_83 rfl (Nat.le_of_ble_eq_true rfl) rfl (Nat.zero_le _) dL_law_685 (Nat.le_of_ble_eq_true rfl) (by omega) (q_fault (dx := 0) (dm := 0) R hn (fun rx hX1 hm => hm)) (fun rx hX1 adx hm => ?_)
  refine LJ_m C dL_law_688 ?_
  refine LJ_callM (N := N + 0) (d := 0) (b1 := 0) (zs := []) (rest := (rx.map (cv w0 adx)).toList ++ []) C (Or.inl rfl) ml_RL_86 rfl (Nat.le_of_ble_eq_true rfl) rfl (rest_le2 rx) dL_law_689 (Nat.le_of_ble_eq_true rfl) (by omega) hm (fun rm hM1 adm hr => ?_)
  obtain ⟨v, rfl, rfl, R1⟩ := hr
  exact LJ_same C dL_law_692 (by decide) (LJ_le (by omega) (kk hX1 hM1 R1))
set_option maxHeartbeats 2000000 in
theorem case_stopped {n i N : Nat} {hX hM : AH} (C : LwE p s m meth c b L xs D cA w0) (R : RR n hX hM) (hn : n < 512) (hi : i + 6 ≤ L) (hN : N + 999 ≤ 600000) (kk : ∀ hX' hM', RR (n + 1) hX' hM' → LJ p l e s m below meth c b D cA w0 aX aM GX GM (N + 999) 1323 (loc4 b aX aM i) [] hX' hM') : LJ p l e s m below meth c b D cA w0 aX aM GX GM N 697 (loc4 b aX aM i) [] hX hM := by
  refine LJ_x C dL_law_697 ?_
  refine LJ_callX (N := N) (d := 0) (b1 := 0) (zs := []) (rest := []) C (Or.inl rfl) ml_RL_87 rfl (Nat.le_of_ble_eq_true rfl) rfl (Nat.zero_le _) dL_law_698 (Nat.le_of_ble_eq_true rfl) (by omega) (q_stopped (dx := 0) (dm := 0) R hn (fun rx hX1 hm => hm)) (fun rx hX1 adx hm => ?_)
  refine LJ_m C dL_law_701 ?_
  refine LJ_callM (N := N + 0) (d := 0) (b1 := 0) (zs := []) (rest := (rx.map (cv w0 adx)).toList ++ []) C (Or.inl rfl) ml_RL_90 rfl (Nat.le_of_ble_eq_true rfl) rfl (rest_le2 rx) dL_law_702 (Nat.le_of_ble_eq_true rfl) (by omega) hm (fun rm hM1 adm hr => ?_)
  obtain ⟨v, rfl, rfl, R1⟩ := hr
  exact LJ_same C dL_law_705 (by decide) (LJ_le (by omega) (kk hX1 hM1 R1))
set_option maxHeartbeats 2000000 in
theorem case_force {n i N : Nat} {hX hM : AH} (C : LwE p s m meth c b L xs D cA w0) (R : RR n hX hM) (hn : n < 512) (hi : i + 6 ≤ L) (hN : N + 999 ≤ 600000) (kk : ∀ hX' hM', RR (n + 1) hX' hM' → LJ p l e s m below meth c b D cA w0 aX aM GX GM (N + 999) 1323 (loc4 b aX aM i) [] hX' hM') : LJ p l e s m below meth c b D cA w0 aX aM GX GM N 710 (loc4 b aX aM i) [] hX hM := by
  refine LJ_x C dL_law_710 ?_
  refine LJ_arg C (k := 1) (by omega) dL_law_711 dL_law_712 dL_law_713 dL_law_714 dL_law_715 ?_
  refine LJ_callX (N := N) (d := 1) (b1 := 0) (zs := [xs (i + 1)]) (rest := []) C (Or.inl rfl) ml_RL_91 rfl (Nat.le_of_ble_eq_true rfl) rfl (Nat.zero_le _) dL_law_716 (Nat.le_of_ble_eq_true rfl) (by omega) (q_force (dx := 0) (dm := 0) R hn (fun rx hX1 hm => hm)) (fun rx hX1 adx hm => ?_)
  refine LJ_m C dL_law_719 ?_
  refine LJ_arg C (k := 1) (by omega) dL_law_720 dL_law_721 dL_law_722 dL_law_723 dL_law_724 ?_
  refine LJ_callM (N := N + 0) (d := 1) (b1 := 0) (zs := [xs (i + 1)]) (rest := (rx.map (cv w0 adx)).toList ++ []) C (Or.inl rfl) ml_RL_94 rfl (Nat.le_of_ble_eq_true rfl) rfl (rest_le2 rx) dL_law_725 (Nat.le_of_ble_eq_true rfl) (by omega) hm (fun rm hM1 adm hr => ?_)
  obtain ⟨v, rfl, rfl, R1⟩ := hr
  exact LJ_same C dL_law_728 (by decide) (LJ_le (by omega) (kk hX1 hM1 R1))
set_option maxHeartbeats 2000000 in
theorem case_launch {n i N : Nat} {hX hM : AH} (C : LwE p s m meth c b L xs D cA w0) (R : RR n hX hM) (hn : n < 512) (hi : i + 6 ≤ L) (hN : N + 999 ≤ 600000) (kk : ∀ hX' hM', RR (n + 1) hX' hM' → LJ p l e s m below meth c b D cA w0 aX aM GX GM (N + 999) 1323 (loc4 b aX aM i) [] hX' hM') : LJ p l e s m below meth c b D cA w0 aX aM GX GM N 733 (loc4 b aX aM i) [] hX hM := by
  refine LJ_x C dL_law_733 ?_
  refine LJ_arg C (k := 1) (by omega) dL_law_734 dL_law_735 dL_law_736 dL_law_737 dL_law_738 ?_
  refine LJ_callX (N := N) (d := 6) (b1 := 0) (zs := [xs (i + 1)]) (rest := []) C (Or.inl rfl) ml_RL_95 rfl (Nat.le_of_ble_eq_true rfl) rfl (Nat.zero_le _) dL_law_739 (Nat.le_of_ble_eq_true rfl) (by omega) (q_launch (dx := 0) (dm := 0) R hn (fun rx hX1 hm => hm)) (fun rx hX1 adx hm => ?_)
  refine LJ_m C dL_law_742 ?_
  refine LJ_arg C (k := 1) (by omega) dL_law_743 dL_law_744 dL_law_745 dL_law_746 dL_law_747 ?_
  refine LJ_callM (N := N + 0) (d := 7) (b1 := 0) (zs := [xs (i + 1)]) (rest := (rx.map (cv w0 adx)).toList ++ []) C (Or.inl rfl) ml_RL_98 rfl (Nat.le_of_ble_eq_true rfl) rfl (rest_le2 rx) dL_law_748 (Nat.le_of_ble_eq_true rfl) (by omega) hm (fun rm hM1 adm hr => ?_)
  obtain ⟨v, rfl, rfl, R1⟩ := hr
  exact LJ_same C dL_law_751 (by decide) (LJ_le (by omega) (kk hX1 hM1 R1))
set_option maxHeartbeats 2000000 in
theorem case_sail {n i N : Nat} {hX hM : AH} (C : LwE p s m meth c b L xs D cA w0) (R : RR n hX hM) (hn : n < 512) (hi : i + 6 ≤ L) (hN : N + 999 ≤ 600000) (kk : ∀ hX' hM', RR (n + 1) hX' hM' → LJ p l e s m below meth c b D cA w0 aX aM GX GM (N + 999) 1323 (loc4 b aX aM i) [] hX' hM') : LJ p l e s m below meth c b D cA w0 aX aM GX GM N 756 (loc4 b aX aM i) [] hX hM := by
  refine LJ_x C dL_law_756 ?_
  refine LJ_arg C (k := 1) (by omega) dL_law_757 dL_law_758 dL_law_759 dL_law_760 dL_law_761 ?_
  refine LJ_arg C (k := 2) (by omega) dL_law_762 dL_law_763 dL_law_764 dL_law_765 dL_law_766 ?_
  refine LJ_callX (N := N) (d := 6) (b1 := 0) (zs := [xs (i + 1), xs (i + 2)]) (rest := []) C (Or.inl rfl) ml_RL_99 rfl (Nat.le_of_ble_eq_true rfl) rfl (Nat.zero_le _) dL_law_767 (Nat.le_of_ble_eq_true rfl) (by omega) (q_sail (dx := 0) (dm := 0) R hn (fun rx hX1 hm => hm)) (fun rx hX1 adx hm => ?_)
  refine LJ_m C dL_law_770 ?_
  refine LJ_arg C (k := 1) (by omega) dL_law_771 dL_law_772 dL_law_773 dL_law_774 dL_law_775 ?_
  refine LJ_arg C (k := 2) (by omega) dL_law_776 dL_law_777 dL_law_778 dL_law_779 dL_law_780 ?_
  refine LJ_callM (N := N + 0) (d := 3) (b1 := 0) (zs := [xs (i + 1), xs (i + 2)]) (rest := (rx.map (cv w0 adx)).toList ++ []) C (Or.inl rfl) ml_RL_102 rfl (Nat.le_of_ble_eq_true rfl) rfl (rest_le2 rx) dL_law_781 (Nat.le_of_ble_eq_true rfl) (by omega) hm (fun rm hM1 adm hr => ?_)
  obtain ⟨v, rfl, rfl, R1⟩ := hr
  exact LJ_same C dL_law_784 (by decide) (LJ_le (by omega) (kk hX1 hM1 R1))
set_option maxHeartbeats 2000000 in
theorem case_fish {n i N : Nat} {hX hM : AH} (C : LwE p s m meth c b L xs D cA w0) (R : RR n hX hM) (hn : n < 512) (hi : i + 6 ≤ L) (hN : N + 999 ≤ 600000) (kk : ∀ hX' hM', RR (n + 1) hX' hM' → LJ p l e s m below meth c b D cA w0 aX aM GX GM (N + 999) 1323 (loc4 b aX aM i) [] hX' hM') : LJ p l e s m below meth c b D cA w0 aX aM GX GM N 789 (loc4 b aX aM i) [] hX hM := by
  refine LJ_x C dL_law_789 ?_
  refine LJ_arg C (k := 1) (by omega) dL_law_790 dL_law_791 dL_law_792 dL_law_793 dL_law_794 ?_
  refine LJ_callX (N := N) (d := 6) (b1 := 0) (zs := [xs (i + 1)]) (rest := []) C (Or.inl rfl) ml_RL_103 rfl (Nat.le_of_ble_eq_true rfl) rfl (Nat.zero_le _) dL_law_795 (Nat.le_of_ble_eq_true rfl) (by omega) (q_fish (dx := 0) (dm := 0) R hn (fun rx hX1 hm => hm)) (fun rx hX1 adx hm => ?_)
  refine LJ_m C dL_law_798 ?_
  refine LJ_arg C (k := 1) (by omega) dL_law_799 dL_law_800 dL_law_801 dL_law_802 dL_law_803 ?_
  refine LJ_callM (N := N + 0) (d := 8) (b1 := 0) (zs := [xs (i + 1)]) (rest := (rx.map (cv w0 adx)).toList ++ []) C (Or.inl rfl) ml_RL_106 rfl (Nat.le_of_ble_eq_true rfl) rfl (rest_le2 rx) dL_law_804 (Nat.le_of_ble_eq_true rfl) (by omega) hm (fun rm hM1 adm hr => ?_)
  obtain ⟨v, rfl, rfl, R1⟩ := hr
  exact LJ_same C dL_law_807 (by decide) (LJ_le (by omega) (kk hX1 hM1 R1))
set_option maxHeartbeats 2000000 in
theorem case_hang {n i N : Nat} {hX hM : AH} (C : LwE p s m meth c b L xs D cA w0) (R : RR n hX hM) (hn : n < 512) (hi : i + 6 ≤ L) (hN : N + 999 ≤ 600000) (kk : ∀ hX' hM', RR (n + 1) hX' hM' → LJ p l e s m below meth c b D cA w0 aX aM GX GM (N + 999) 1323 (loc4 b aX aM i) [] hX' hM') : LJ p l e s m below meth c b D cA w0 aX aM GX GM N 812 (loc4 b aX aM i) [] hX hM := by
  refine LJ_x C dL_law_812 ?_
  refine LJ_arg C (k := 1) (by omega) dL_law_813 dL_law_814 dL_law_815 dL_law_816 dL_law_817 ?_
  refine LJ_arg C (k := 2) (by omega) dL_law_818 dL_law_819 dL_law_820 dL_law_821 dL_law_822 ?_
  refine LJ_callX (N := N) (d := 6) (b1 := 0) (zs := [xs (i + 1), xs (i + 2)]) (rest := []) C (Or.inl rfl) ml_RL_107 rfl (Nat.le_of_ble_eq_true rfl) rfl (Nat.zero_le _) dL_law_823 (Nat.le_of_ble_eq_true rfl) (by omega) (q_hang (dx := 0) (dm := 0) R hn (fun rx hX1 hm => hm)) (fun rx hX1 adx hm => ?_)
  refine LJ_m C dL_law_826 ?_
  refine LJ_arg C (k := 1) (by omega) dL_law_827 dL_law_828 dL_law_829 dL_law_830 dL_law_831 ?_
  refine LJ_arg C (k := 2) (by omega) dL_law_832 dL_law_833 dL_law_834 dL_law_835 dL_law_836 ?_
  refine LJ_callM (N := N + 0) (d := 7) (b1 := 0) (zs := [xs (i + 1), xs (i + 2)]) (rest := (rx.map (cv w0 adx)).toList ++ []) C (Or.inl rfl) ml_RL_110 rfl (Nat.le_of_ble_eq_true rfl) rfl (rest_le2 rx) dL_law_837 (Nat.le_of_ble_eq_true rfl) (by omega) hm (fun rm hM1 adm hr => ?_)
  obtain ⟨v, rfl, rfl, R1⟩ := hr
  exact LJ_same C dL_law_840 (by decide) (LJ_le (by omega) (kk hX1 hM1 R1))
set_option maxHeartbeats 2000000 in
theorem case_tide {n i N : Nat} {hX hM : AH} (C : LwE p s m meth c b L xs D cA w0) (R : RR n hX hM) (hn : n < 512) (hi : i + 6 ≤ L) (hN : N + 999 ≤ 600000) (kk : ∀ hX' hM', RR (n + 1) hX' hM' → LJ p l e s m below meth c b D cA w0 aX aM GX GM (N + 999) 1323 (loc4 b aX aM i) [] hX' hM') : LJ p l e s m below meth c b D cA w0 aX aM GX GM N 845 (loc4 b aX aM i) [] hX hM := by
  refine LJ_x C dL_law_845 ?_
  refine LJ_callX (N := N) (d := 6) (b1 := 0) (zs := []) (rest := []) C (Or.inl rfl) ml_RL_111 rfl (Nat.le_of_ble_eq_true rfl) rfl (Nat.zero_le _) dL_law_846 (Nat.le_of_ble_eq_true rfl) (by omega) (q_tide (dx := 0) (dm := 0) R hn (fun rx hX1 hm => hm)) (fun rx hX1 adx hm => ?_)
  refine LJ_m C dL_law_849 ?_
  refine LJ_callM (N := N + 0) (d := 3) (b1 := 0) (zs := []) (rest := (rx.map (cv w0 adx)).toList ++ []) C (Or.inl rfl) ml_RL_114 rfl (Nat.le_of_ble_eq_true rfl) rfl (rest_le2 rx) dL_law_850 (Nat.le_of_ble_eq_true rfl) (by omega) hm (fun rm hM1 adm hr => ?_)
  obtain ⟨v, rfl, rfl, R1⟩ := hr
  exact LJ_same C dL_law_853 (by decide) (LJ_le (by omega) (kk hX1 hM1 R1))
set_option maxHeartbeats 2000000 in
theorem case_undo {n i N : Nat} {hX hM : AH} (C : LwE p s m meth c b L xs D cA w0) (R : RR n hX hM) (hn : n < 512) (hi : i + 6 ≤ L) (hN : N + 999 ≤ 600000) (kk : ∀ hX' hM', RR (n + 1) hX' hM' → LJ p l e s m below meth c b D cA w0 aX aM GX GM (N + 999) 1323 (loc4 b aX aM i) [] hX' hM') : LJ p l e s m below meth c b D cA w0 aX aM GX GM N 858 (loc4 b aX aM i) [] hX hM := by
  refine LJ_x C dL_law_858 ?_
  refine LJ_callX (N := N) (d := 2) (b1 := 0) (zs := []) (rest := []) C (Or.inl rfl) ml_RL_115 rfl (Nat.le_of_ble_eq_true rfl) rfl (Nat.zero_le _) dL_law_859 (Nat.le_of_ble_eq_true rfl) (by omega) (q_undo (dx := 0) (dm := 0) R hn (fun rx hX1 hm => hm)) (fun rx hX1 adx hm => ?_)
  refine LJ_m C dL_law_862 ?_
  refine LJ_callM (N := N + 0) (d := 1) (b1 := 0) (zs := []) (rest := (rx.map (cv w0 adx)).toList ++ []) C (Or.inl rfl) ml_RL_118 rfl (Nat.le_of_ble_eq_true rfl) rfl (rest_le2 rx) dL_law_863 (Nat.le_of_ble_eq_true rfl) (by omega) hm (fun rm hM1 adm hr => ?_)
  obtain ⟨v, rfl, rfl, R1⟩ := hr
  exact LJ_same C dL_law_866 (by decide) (LJ_le (by omega) (kk hX1 hM1 R1))
set_option maxHeartbeats 2000000 in
theorem case_fleet {n i N : Nat} {hX hM : AH} (C : LwE p s m meth c b L xs D cA w0) (R : RR n hX hM) (hn : n < 512) (hi : i + 6 ≤ L) (hN : N + 999 ≤ 600000) (kk : ∀ hX' hM', RR (n + 1) hX' hM' → LJ p l e s m below meth c b D cA w0 aX aM GX GM (N + 999) 1323 (loc4 b aX aM i) [] hX' hM') : LJ p l e s m below meth c b D cA w0 aX aM GX GM N 871 (loc4 b aX aM i) [] hX hM := by
  refine LJ_x C dL_law_871 ?_
  refine LJ_arg C (k := 1) (by omega) dL_law_872 dL_law_873 dL_law_874 dL_law_875 dL_law_876 ?_
  refine LJ_arg C (k := 2) (by omega) dL_law_877 dL_law_878 dL_law_879 dL_law_880 dL_law_881 ?_
  refine LJ_callX (N := N) (d := 5) (b1 := 0) (zs := [xs (i + 1), xs (i + 2)]) (rest := []) C (Or.inl rfl) ml_RL_119 rfl (Nat.le_of_ble_eq_true rfl) rfl (Nat.zero_le _) dL_law_882 (Nat.le_of_ble_eq_true rfl) (by omega) (q_fleet (dx := 0) (dm := 0) R hn (fun rx hX1 hm => hm)) (fun rx hX1 adx hm => ?_)
  refine LJ_m C dL_law_885 ?_
  refine LJ_arg C (k := 1) (by omega) dL_law_886 dL_law_887 dL_law_888 dL_law_889 dL_law_890 ?_
  refine LJ_arg C (k := 2) (by omega) dL_law_891 dL_law_892 dL_law_893 dL_law_894 dL_law_895 ?_
  refine LJ_callM (N := N + 0) (d := 6) (b1 := 0) (zs := [xs (i + 1), xs (i + 2)]) (rest := (rx.map (cv w0 adx)).toList ++ []) C (Or.inl rfl) ml_RL_122 rfl (Nat.le_of_ble_eq_true rfl) rfl (rest_le2 rx) dL_law_896 (Nat.le_of_ble_eq_true rfl) (by omega) hm (fun rm hM1 adm hr => ?_)
  obtain ⟨v, rfl, rfl, R1⟩ := hr
  exact LJ_same C dL_law_899 (by decide) (LJ_le (by omega) (kk hX1 hM1 R1))
set_option maxHeartbeats 2000000 in
theorem case_hanging {n i N : Nat} {hX hM : AH} (C : LwE p s m meth c b L xs D cA w0) (R : RR n hX hM) (hn : n < 512) (hi : i + 6 ≤ L) (hN : N + 999 ≤ 600000) (kk : ∀ hX' hM', RR (n + 1) hX' hM' → LJ p l e s m below meth c b D cA w0 aX aM GX GM (N + 999) 1323 (loc4 b aX aM i) [] hX' hM') : LJ p l e s m below meth c b D cA w0 aX aM GX GM N 904 (loc4 b aX aM i) [] hX hM := by
  refine LJ_x C dL_law_904 ?_
  refine LJ_arg C (k := 1) (by omega) dL_law_905 dL_law_906 dL_law_907 dL_law_908 dL_law_909 ?_
  refine LJ_callX (N := N) (d := 5) (b1 := 0) (zs := [xs (i + 1)]) (rest := []) C (Or.inl rfl) ml_RL_123 rfl (Nat.le_of_ble_eq_true rfl) rfl (Nat.zero_le _) dL_law_910 (Nat.le_of_ble_eq_true rfl) (by omega) (q_hanging (dx := 0) (dm := 0) R hn (fun rx hX1 hm => hm)) (fun rx hX1 adx hm => ?_)
  refine LJ_m C dL_law_913 ?_
  refine LJ_arg C (k := 1) (by omega) dL_law_914 dL_law_915 dL_law_916 dL_law_917 dL_law_918 ?_
  refine LJ_callM (N := N + 0) (d := 8) (b1 := 0) (zs := [xs (i + 1)]) (rest := (rx.map (cv w0 adx)).toList ++ []) C (Or.inl rfl) ml_RL_126 rfl (Nat.le_of_ble_eq_true rfl) rfl (rest_le2 rx) dL_law_919 (Nat.le_of_ble_eq_true rfl) (by omega) hm (fun rm hM1 adm hr => ?_)
  obtain ⟨v, rfl, rfl, R1⟩ := hr
  exact LJ_same C dL_law_922 (by decide) (LJ_le (by omega) (kk hX1 hM1 R1))
set_option maxHeartbeats 2000000 in
theorem case_right {n i N : Nat} {hX hM : AH} (C : LwE p s m meth c b L xs D cA w0) (R : RR n hX hM) (hn : n < 512) (hi : i + 6 ≤ L) (hN : N + 999 ≤ 600000) (kk : ∀ hX' hM', RR (n + 1) hX' hM' → LJ p l e s m below meth c b D cA w0 aX aM GX GM (N + 999) 1323 (loc4 b aX aM i) [] hX' hM') : LJ p l e s m below meth c b D cA w0 aX aM GX GM N 927 (loc4 b aX aM i) [] hX hM := by
  refine LJ_x C dL_law_927 ?_
  refine LJ_callX (N := N) (d := 1) (b1 := 0) (zs := []) (rest := []) C (Or.inl rfl) ml_RL_127 rfl (Nat.le_of_ble_eq_true rfl) rfl (Nat.zero_le _) dL_law_928 (Nat.le_of_ble_eq_true rfl) (by omega) (q_right (dx := 0) (dm := 0) R hn (fun rx hX1 hm => hm)) (fun rx hX1 adx hm => ?_)
  refine LJ_m C dL_law_931 ?_
  refine LJ_callM (N := N + 0) (d := 2) (b1 := 0) (zs := []) (rest := (rx.map (cv w0 adx)).toList ++ []) C (Or.inl rfl) ml_RL_130 rfl (Nat.le_of_ble_eq_true rfl) rfl (rest_le2 rx) dL_law_932 (Nat.le_of_ble_eq_true rfl) (by omega) hm (fun rm hM1 adm hr => ?_)
  obtain ⟨v, rfl, rfl, R1⟩ := hr
  exact LJ_same C dL_law_935 (by decide) (LJ_le (by omega) (kk hX1 hM1 R1))
set_option maxHeartbeats 2000000 in
theorem case_heard {n i N : Nat} {hX hM : AH} (C : LwE p s m meth c b L xs D cA w0) (R : RR n hX hM) (hn : n < 512) (hi : i + 6 ≤ L) (hN : N + 999 ≤ 600000) (kk : ∀ hX' hM', RR (n + 1) hX' hM' → LJ p l e s m below meth c b D cA w0 aX aM GX GM (N + 999) 1323 (loc4 b aX aM i) [] hX' hM') : LJ p l e s m below meth c b D cA w0 aX aM GX GM N 940 (loc4 b aX aM i) [] hX hM := by
  refine LJ_x C dL_law_940 ?_
  refine LJ_arg C (k := 1) (by omega) dL_law_941 dL_law_942 dL_law_943 dL_law_944 dL_law_945 ?_
  refine LJ_arg C (k := 2) (by omega) dL_law_946 dL_law_947 dL_law_948 dL_law_949 dL_law_950 ?_
  refine LJ_callX (N := N) (d := 1) (b1 := 0) (zs := [xs (i + 1), xs (i + 2)]) (rest := []) C (Or.inl rfl) ml_RL_131 rfl (Nat.le_of_ble_eq_true rfl) rfl (Nat.zero_le _) dL_law_951 (Nat.le_of_ble_eq_true rfl) (by omega) (q_heard (dx := 0) (dm := 0) R hn (fun rx hX1 hm => hm)) (fun rx hX1 adx hm => ?_)
  refine LJ_m C dL_law_954 ?_
  refine LJ_arg C (k := 1) (by omega) dL_law_955 dL_law_956 dL_law_957 dL_law_958 dL_law_959 ?_
  refine LJ_arg C (k := 2) (by omega) dL_law_960 dL_law_961 dL_law_962 dL_law_963 dL_law_964 ?_
  refine LJ_callM (N := N + 0) (d := 1) (b1 := 0) (zs := [xs (i + 1), xs (i + 2)]) (rest := (rx.map (cv w0 adx)).toList ++ []) C (Or.inl rfl) ml_RL_134 rfl (Nat.le_of_ble_eq_true rfl) rfl (rest_le2 rx) dL_law_965 (Nat.le_of_ble_eq_true rfl) (by omega) hm (fun rm hM1 adm hr => ?_)
  obtain ⟨v, rfl, rfl, R1⟩ := hr
  exact LJ_same C dL_law_968 (by decide) (LJ_le (by omega) (kk hX1 hM1 R1))
set_option maxHeartbeats 2000000 in
theorem case_knock {n i N : Nat} {hX hM : AH} (C : LwE p s m meth c b L xs D cA w0) (R : RR n hX hM) (hn : n < 512) (hi : i + 6 ≤ L) (hN : N + 999 ≤ 600000) (kk : ∀ hX' hM', RR (n + 1) hX' hM' → LJ p l e s m below meth c b D cA w0 aX aM GX GM (N + 999) 1323 (loc4 b aX aM i) [] hX' hM') : LJ p l e s m below meth c b D cA w0 aX aM GX GM N 973 (loc4 b aX aM i) [] hX hM := by
  refine LJ_x C dL_law_973 ?_
  refine LJ_arg C (k := 1) (by omega) dL_law_974 dL_law_975 dL_law_976 dL_law_977 dL_law_978 ?_
  refine LJ_callX (N := N) (d := 2) (b1 := 0) (zs := [xs (i + 1)]) (rest := []) C (Or.inl rfl) ml_RL_135 rfl (Nat.le_of_ble_eq_true rfl) rfl (Nat.zero_le _) dL_law_979 (Nat.le_of_ble_eq_true rfl) (by omega) (q_knock (dx := 0) (dm := 0) R hn (fun rx hX1 hm => hm)) (fun rx hX1 adx hm => ?_)
  refine LJ_m C dL_law_982 ?_
  refine LJ_arg C (k := 1) (by omega) dL_law_983 dL_law_984 dL_law_985 dL_law_986 dL_law_987 ?_
  refine LJ_callM (N := N + 0) (d := 1) (b1 := 0) (zs := [xs (i + 1)]) (rest := (rx.map (cv w0 adx)).toList ++ []) C (Or.inl rfl) ml_RL_138 rfl (Nat.le_of_ble_eq_true rfl) rfl (rest_le2 rx) dL_law_988 (Nat.le_of_ble_eq_true rfl) (by omega) hm (fun rm hM1 adm hr => ?_)
  obtain ⟨v, rfl, rfl, R1⟩ := hr
  exact LJ_same C dL_law_991 (by decide) (LJ_le (by omega) (kk hX1 hM1 R1))
set_option maxHeartbeats 2000000 in
theorem case_wreck {n i N : Nat} {hX hM : AH} (C : LwE p s m meth c b L xs D cA w0) (R : RR n hX hM) (hn : n < 512) (hi : i + 6 ≤ L) (hN : N + 999 ≤ 600000) (kk : ∀ hX' hM', RR (n + 1) hX' hM' → LJ p l e s m below meth c b D cA w0 aX aM GX GM (N + 999) 1323 (loc4 b aX aM i) [] hX' hM') : LJ p l e s m below meth c b D cA w0 aX aM GX GM N 996 (loc4 b aX aM i) [] hX hM := by
  refine LJ_x C dL_law_996 ?_
  refine LJ_arg C (k := 1) (by omega) dL_law_997 dL_law_998 dL_law_999 dL_law_1000 dL_law_1001 ?_
  refine LJ_arg C (k := 2) (by omega) dL_law_1002 dL_law_1003 dL_law_1004 dL_law_1005 dL_law_1006 ?_
  refine LJ_callX (N := N) (d := 2) (b1 := 0) (zs := [xs (i + 1), xs (i + 2)]) (rest := []) C (Or.inl rfl) ml_RL_139 rfl (Nat.le_of_ble_eq_true rfl) rfl (Nat.zero_le _) dL_law_1007 (Nat.le_of_ble_eq_true rfl) (by omega) (q_wreck (dx := 0) (dm := 0) R hn (fun rx hX1 hm => hm)) (fun rx hX1 adx hm => ?_)
  refine LJ_m C dL_law_1010 ?_
  refine LJ_arg C (k := 1) (by omega) dL_law_1011 dL_law_1012 dL_law_1013 dL_law_1014 dL_law_1015 ?_
  refine LJ_arg C (k := 2) (by omega) dL_law_1016 dL_law_1017 dL_law_1018 dL_law_1019 dL_law_1020 ?_
  refine LJ_callM (N := N + 0) (d := 2) (b1 := 0) (zs := [xs (i + 1), xs (i + 2)]) (rest := (rx.map (cv w0 adx)).toList ++ []) C (Or.inl rfl) ml_RL_142 rfl (Nat.le_of_ble_eq_true rfl) rfl (rest_le2 rx) dL_law_1021 (Nat.le_of_ble_eq_true rfl) (by omega) hm (fun rm hM1 adm hr => ?_)
  obtain ⟨v, rfl, rfl, R1⟩ := hr
  exact LJ_same C dL_law_1024 (by decide) (LJ_le (by omega) (kk hX1 hM1 R1))
set_option maxHeartbeats 2000000 in
theorem case_search {n i N : Nat} {hX hM : AH} (C : LwE p s m meth c b L xs D cA w0) (R : RR n hX hM) (hn : n < 512) (hi : i + 6 ≤ L) (hN : N + 999 ≤ 600000) (kk : ∀ hX' hM', RR (n + 1) hX' hM' → LJ p l e s m below meth c b D cA w0 aX aM GX GM (N + 999) 1323 (loc4 b aX aM i) [] hX' hM') : LJ p l e s m below meth c b D cA w0 aX aM GX GM N 1029 (loc4 b aX aM i) [] hX hM := by
  refine LJ_x C dL_law_1029 ?_
  refine LJ_arg C (k := 1) (by omega) dL_law_1030 dL_law_1031 dL_law_1032 dL_law_1033 dL_law_1034 ?_
  refine LJ_arg C (k := 2) (by omega) dL_law_1035 dL_law_1036 dL_law_1037 dL_law_1038 dL_law_1039 ?_
  refine LJ_callX (N := N) (d := 3) (b1 := 0) (zs := [xs (i + 1), xs (i + 2)]) (rest := []) C (Or.inl rfl) ml_RL_143 rfl (Nat.le_of_ble_eq_true rfl) rfl (Nat.zero_le _) dL_law_1040 (Nat.le_of_ble_eq_true rfl) (by omega) (q_search (dx := 0) (dm := 0) R hn (fun rx hX1 hm => hm)) (fun rx hX1 adx hm => ?_)
  refine LJ_m C dL_law_1043 ?_
  refine LJ_arg C (k := 1) (by omega) dL_law_1044 dL_law_1045 dL_law_1046 dL_law_1047 dL_law_1048 ?_
  refine LJ_arg C (k := 2) (by omega) dL_law_1049 dL_law_1050 dL_law_1051 dL_law_1052 dL_law_1053 ?_
  refine LJ_callM (N := N + 0) (d := 3) (b1 := 0) (zs := [xs (i + 1), xs (i + 2)]) (rest := (rx.map (cv w0 adx)).toList ++ []) C (Or.inl rfl) ml_RL_146 rfl (Nat.le_of_ble_eq_true rfl) rfl (rest_le2 rx) dL_law_1054 (Nat.le_of_ble_eq_true rfl) (by omega) hm (fun rm hM1 adm hr => ?_)
  obtain ⟨v, rfl, rfl, R1⟩ := hr
  exact LJ_same C dL_law_1057 (by decide) (LJ_le (by omega) (kk hX1 hM1 R1))
set_option maxHeartbeats 2000000 in
theorem case_afloat {n i N : Nat} {hX hM : AH} (C : LwE p s m meth c b L xs D cA w0) (R : RR n hX hM) (hn : n < 512) (hi : i + 6 ≤ L) (hN : N + 999 ≤ 600000) (kk : ∀ hX' hM', RR (n + 1) hX' hM' → LJ p l e s m below meth c b D cA w0 aX aM GX GM (N + 999) 1323 (loc4 b aX aM i) [] hX' hM') : LJ p l e s m below meth c b D cA w0 aX aM GX GM N 1062 (loc4 b aX aM i) [] hX hM := by
  refine LJ_x C dL_law_1062 ?_
  refine LJ_arg C (k := 1) (by omega) dL_law_1063 dL_law_1064 dL_law_1065 dL_law_1066 dL_law_1067 ?_
  refine LJ_arg C (k := 2) (by omega) dL_law_1068 dL_law_1069 dL_law_1070 dL_law_1071 dL_law_1072 ?_
  refine LJ_callX (N := N) (d := 4) (b1 := 0) (zs := [xs (i + 1), xs (i + 2)]) (rest := []) C (Or.inl rfl) ml_RL_147 rfl (Nat.le_of_ble_eq_true rfl) rfl (Nat.zero_le _) dL_law_1073 (Nat.le_of_ble_eq_true rfl) (by omega) (q_afloat (dx := 0) (dm := 0) R hn (fun rx hX1 hm => hm)) (fun rx hX1 adx hm => ?_)
  refine LJ_m C dL_law_1076 ?_
  refine LJ_arg C (k := 1) (by omega) dL_law_1077 dL_law_1078 dL_law_1079 dL_law_1080 dL_law_1081 ?_
  refine LJ_arg C (k := 2) (by omega) dL_law_1082 dL_law_1083 dL_law_1084 dL_law_1085 dL_law_1086 ?_
  refine LJ_callM (N := N + 0) (d := 6) (b1 := 0) (zs := [xs (i + 1), xs (i + 2)]) (rest := (rx.map (cv w0 adx)).toList ++ []) C (Or.inl rfl) ml_RL_151 rfl (Nat.le_of_ble_eq_true rfl) rfl (rest_le2 rx) dL_law_1087 (Nat.le_of_ble_eq_true rfl) (by omega) hm (fun rm hM1 adm hr => ?_)
  obtain ⟨v, rfl, rfl, R1⟩ := hr
  exact LJ_sameL C dL_law_1090 dL_law_1091 (by decide) (LJ_le (by omega) (kk hX1 hM1 R1))
set_option maxHeartbeats 2000000 in
theorem case_guards {n i N : Nat} {hX hM : AH} (C : LwE p s m meth c b L xs D cA w0) (R : RR n hX hM) (hn : n < 512) (hi : i + 6 ≤ L) (hN : N + 999 ≤ 600000) (kk : ∀ hX' hM', RR (n + 1) hX' hM' → LJ p l e s m below meth c b D cA w0 aX aM GX GM (N + 999) 1323 (loc4 b aX aM i) [] hX' hM') : LJ p l e s m below meth c b D cA w0 aX aM GX GM N 1096 (loc4 b aX aM i) [] hX hM := by
  refine LJ_x C dL_law_1096 ?_
  refine LJ_arg C (k := 1) (by omega) dL_law_1097 dL_law_1098 dL_law_1099 dL_law_1100 dL_law_1101 ?_
  refine LJ_callX (N := N) (d := 1) (b1 := 0) (zs := [xs (i + 1)]) (rest := []) C (Or.inl rfl) ml_RL_152 rfl (Nat.le_of_ble_eq_true rfl) rfl (Nat.zero_le _) dL_law_1102 (Nat.le_of_ble_eq_true rfl) (by omega) (q_guards (dx := 0) (dm := 0) R hn (fun rx hX1 hm => hm)) (fun rx hX1 adx hm => ?_)
  refine LJ_m C dL_law_1105 ?_
  refine LJ_arg C (k := 1) (by omega) dL_law_1106 dL_law_1107 dL_law_1108 dL_law_1109 dL_law_1110 ?_
  refine LJ_callM (N := N + 0) (d := 1) (b1 := 0) (zs := [xs (i + 1)]) (rest := (rx.map (cv w0 adx)).toList ++ []) C (Or.inl rfl) ml_RL_155 rfl (Nat.le_of_ble_eq_true rfl) rfl (rest_le2 rx) dL_law_1111 (Nat.le_of_ble_eq_true rfl) (by omega) hm (fun rm hM1 adm hr => ?_)
  obtain ⟨v, rfl, rfl, R1⟩ := hr
  exact LJ_same C dL_law_1114 (by decide) (LJ_le (by omega) (kk hX1 hM1 R1))
set_option maxHeartbeats 2000000 in
theorem case_battle {n i N : Nat} {hX hM : AH} (C : LwE p s m meth c b L xs D cA w0) (R : RR n hX hM) (hn : n < 512) (hi : i + 6 ≤ L) (hN : N + 999 ≤ 600000) (kk : ∀ hX' hM', RR (n + 1) hX' hM' → LJ p l e s m below meth c b D cA w0 aX aM GX GM (N + 999) 1323 (loc4 b aX aM i) [] hX' hM') : LJ p l e s m below meth c b D cA w0 aX aM GX GM N 1119 (loc4 b aX aM i) [] hX hM := by
  refine LJ_x C dL_law_1119 ?_
  refine LJ_arg C (k := 1) (by omega) dL_law_1120 dL_law_1121 dL_law_1122 dL_law_1123 dL_law_1124 ?_
  refine LJ_callX (N := N) (d := 3) (b1 := 0) (zs := [xs (i + 1)]) (rest := []) C (Or.inl rfl) ml_RL_156 rfl (Nat.le_of_ble_eq_true rfl) rfl (Nat.zero_le _) dL_law_1125 (Nat.le_of_ble_eq_true rfl) (by omega) (q_battle (dx := 0) (dm := 0) R hn (fun rx hX1 hm => hm)) (fun rx hX1 adx hm => ?_)
  refine LJ_m C dL_law_1128 ?_
  refine LJ_arg C (k := 1) (by omega) dL_law_1129 dL_law_1130 dL_law_1131 dL_law_1132 dL_law_1133 ?_
  refine LJ_callM (N := N + 0) (d := 8) (b1 := 0) (zs := [xs (i + 1)]) (rest := (rx.map (cv w0 adx)).toList ++ []) C (Or.inl rfl) ml_RL_159 rfl (Nat.le_of_ble_eq_true rfl) rfl (rest_le2 rx) dL_law_1134 (Nat.le_of_ble_eq_true rfl) (by omega) hm (fun rm hM1 adm hr => ?_)
  obtain ⟨v, rfl, rfl, R1⟩ := hr
  exact LJ_same C dL_law_1137 (by decide) (LJ_le (by omega) (kk hX1 hM1 R1))
set_option maxHeartbeats 2000000 in
theorem case_share {n i N : Nat} {hX hM : AH} (C : LwE p s m meth c b L xs D cA w0) (R : RR n hX hM) (hn : n < 512) (hi : i + 6 ≤ L) (hN : N + 999 ≤ 600000) (kk : ∀ hX' hM', RR (n + 1) hX' hM' → LJ p l e s m below meth c b D cA w0 aX aM GX GM (N + 999) 1323 (loc4 b aX aM i) [] hX' hM') : LJ p l e s m below meth c b D cA w0 aX aM GX GM N 1142 (loc4 b aX aM i) [] hX hM := by
  refine LJ_x C dL_law_1142 ?_
  refine LJ_arg C (k := 1) (by omega) dL_law_1143 dL_law_1144 dL_law_1145 dL_law_1146 dL_law_1147 ?_
  refine LJ_arg C (k := 2) (by omega) dL_law_1148 dL_law_1149 dL_law_1150 dL_law_1151 dL_law_1152 ?_
  refine LJ_callX (N := N) (d := 1) (b1 := 0) (zs := [xs (i + 1), xs (i + 2)]) (rest := []) C (Or.inl rfl) ml_RL_160 rfl (Nat.le_of_ble_eq_true rfl) rfl (Nat.zero_le _) dL_law_1153 (Nat.le_of_ble_eq_true rfl) (by omega) (q_share (dx := 0) (dm := 0) R hn (fun rx hX1 hm => hm)) (fun rx hX1 adx hm => ?_)
  refine LJ_m C dL_law_1156 ?_
  refine LJ_arg C (k := 1) (by omega) dL_law_1157 dL_law_1158 dL_law_1159 dL_law_1160 dL_law_1161 ?_
  refine LJ_arg C (k := 2) (by omega) dL_law_1162 dL_law_1163 dL_law_1164 dL_law_1165 dL_law_1166 ?_
  refine LJ_callM (N := N + 0) (d := 2) (b1 := 0) (zs := [xs (i + 1), xs (i + 2)]) (rest := (rx.map (cv w0 adx)).toList ++ []) C (Or.inl rfl) ml_RL_163 rfl (Nat.le_of_ble_eq_true rfl) rfl (rest_le2 rx) dL_law_1167 (Nat.le_of_ble_eq_true rfl) (by omega) hm (fun rm hM1 adm hr => ?_)
  obtain ⟨v, rfl, rfl, R1⟩ := hr
  exact LJ_same C dL_law_1170 (by decide) (LJ_le (by omega) (kk hX1 hM1 R1))
set_option maxHeartbeats 2000000 in
theorem case_summers {n i N : Nat} {hX hM : AH} (C : LwE p s m meth c b L xs D cA w0) (R : RR n hX hM) (hn : n < 512) (hi : i + 6 ≤ L) (hN : N + 999 ≤ 600000) (kk : ∀ hX' hM', RR (n + 1) hX' hM' → LJ p l e s m below meth c b D cA w0 aX aM GX GM (N + 999) 1323 (loc4 b aX aM i) [] hX' hM') : LJ p l e s m below meth c b D cA w0 aX aM GX GM N 1175 (loc4 b aX aM i) [] hX hM := by
  refine LJ_x C dL_law_1175 ?_
  refine LJ_arg C (k := 1) (by omega) dL_law_1176 dL_law_1177 dL_law_1178 dL_law_1179 dL_law_1180 ?_
  refine LJ_arg C (k := 2) (by omega) dL_law_1181 dL_law_1182 dL_law_1183 dL_law_1184 dL_law_1185 ?_
  refine LJ_callX (N := N) (d := 4) (b1 := 0) (zs := [xs (i + 1), xs (i + 2)]) (rest := []) C (Or.inl rfl) ml_RL_164 rfl (Nat.le_of_ble_eq_true rfl) rfl (Nat.zero_le _) dL_law_1186 (Nat.le_of_ble_eq_true rfl) (by omega) (q_summers (dx := 0) (dm := 0) R hn (fun rx hX1 hm => hm)) (fun rx hX1 adx hm => ?_)
  refine LJ_m C dL_law_1189 ?_
  refine LJ_arg C (k := 1) (by omega) dL_law_1190 dL_law_1191 dL_law_1192 dL_law_1193 dL_law_1194 ?_
  refine LJ_arg C (k := 2) (by omega) dL_law_1195 dL_law_1196 dL_law_1197 dL_law_1198 dL_law_1199 ?_
  refine LJ_callM (N := N + 0) (d := 7) (b1 := 0) (zs := [xs (i + 1), xs (i + 2)]) (rest := (rx.map (cv w0 adx)).toList ++ []) C (Or.inl rfl) ml_RL_167 rfl (Nat.le_of_ble_eq_true rfl) rfl (rest_le2 rx) dL_law_1200 (Nat.le_of_ble_eq_true rfl) (by omega) hm (fun rm hM1 adm hr => ?_)
  obtain ⟨v, rfl, rfl, R1⟩ := hr
  exact LJ_same C dL_law_1203 (by decide) (LJ_le (by omega) (kk hX1 hM1 R1))
set_option maxHeartbeats 2000000 in
theorem case_drawn {n i N : Nat} {hX hM : AH} (C : LwE p s m meth c b L xs D cA w0) (R : RR n hX hM) (hn : n < 512) (hi : i + 6 ≤ L) (hN : N + 999 ≤ 600000) (kk : ∀ hX' hM', RR (n + 1) hX' hM' → LJ p l e s m below meth c b D cA w0 aX aM GX GM (N + 999) 1323 (loc4 b aX aM i) [] hX' hM') : LJ p l e s m below meth c b D cA w0 aX aM GX GM N 1208 (loc4 b aX aM i) [] hX hM := by
  refine LJ_x C dL_law_1208 ?_
  refine LJ_arg C (k := 1) (by omega) dL_law_1209 dL_law_1210 dL_law_1211 dL_law_1212 dL_law_1213 ?_
  refine LJ_arg C (k := 2) (by omega) dL_law_1214 dL_law_1215 dL_law_1216 dL_law_1217 dL_law_1218 ?_
  refine LJ_callX (N := N) (d := 1) (b1 := 0) (zs := [xs (i + 1), xs (i + 2)]) (rest := []) C (Or.inl rfl) ml_RL_168 rfl (Nat.le_of_ble_eq_true rfl) rfl (Nat.zero_le _) dL_law_1219 (Nat.le_of_ble_eq_true rfl) (by omega) (q_drawn (dx := 0) (dm := 0) R hn (fun rx hX1 hm => hm)) (fun rx hX1 adx hm => ?_)
  refine LJ_m C dL_law_1222 ?_
  refine LJ_arg C (k := 1) (by omega) dL_law_1223 dL_law_1224 dL_law_1225 dL_law_1226 dL_law_1227 ?_
  refine LJ_arg C (k := 2) (by omega) dL_law_1228 dL_law_1229 dL_law_1230 dL_law_1231 dL_law_1232 ?_
  refine LJ_callM (N := N + 0) (d := 1) (b1 := 0) (zs := [xs (i + 1), xs (i + 2)]) (rest := (rx.map (cv w0 adx)).toList ++ []) C (Or.inl rfl) ml_RL_171 rfl (Nat.le_of_ble_eq_true rfl) rfl (rest_le2 rx) dL_law_1233 (Nat.le_of_ble_eq_true rfl) (by omega) hm (fun rm hM1 adm hr => ?_)
  obtain ⟨v, rfl, rfl, R1⟩ := hr
  exact LJ_same C dL_law_1236 (by decide) (LJ_le (by omega) (kk hX1 hM1 R1))
set_option maxHeartbeats 2000000 in
theorem case_image {n i N : Nat} {hX hM : AH} (C : LwE p s m meth c b L xs D cA w0) (R : RR n hX hM) (hn : n < 512) (hi : i + 6 ≤ L) (hN : N + 999 ≤ 600000) (kk : ∀ hX' hM', RR (n + 1) hX' hM' → LJ p l e s m below meth c b D cA w0 aX aM GX GM (N + 999) 1323 (loc4 b aX aM i) [] hX' hM') : LJ p l e s m below meth c b D cA w0 aX aM GX GM N 1241 (loc4 b aX aM i) [] hX hM := by
  refine LJ_x C dL_law_1241 ?_
  refine LJ_arg C (k := 1) (by omega) dL_law_1242 dL_law_1243 dL_law_1244 dL_law_1245 dL_law_1246 ?_
  refine LJ_callX (N := N) (d := 2) (b1 := 0) (zs := [xs (i + 1)]) (rest := []) C (Or.inl rfl) ml_RL_172 rfl (Nat.le_of_ble_eq_true rfl) rfl (Nat.zero_le _) dL_law_1247 (Nat.le_of_ble_eq_true rfl) (by omega) (q_image (dx := 0) (dm := 0) R hn (fun rx hX1 hm => hm)) (fun rx hX1 adx hm => ?_)
  refine LJ_m C dL_law_1250 ?_
  refine LJ_arg C (k := 1) (by omega) dL_law_1251 dL_law_1252 dL_law_1253 dL_law_1254 dL_law_1255 ?_
  refine LJ_callM (N := N + 0) (d := 1) (b1 := 0) (zs := [xs (i + 1)]) (rest := (rx.map (cv w0 adx)).toList ++ []) C (Or.inl rfl) ml_RL_175 rfl (Nat.le_of_ble_eq_true rfl) rfl (rest_le2 rx) dL_law_1256 (Nat.le_of_ble_eq_true rfl) (by omega) hm (fun rm hM1 adm hr => ?_)
  obtain ⟨v, rfl, rfl, R1⟩ := hr
  exact LJ_same C dL_law_1259 (by decide) (LJ_le (by omega) (kk hX1 hM1 R1))
set_option maxHeartbeats 2000000 in
theorem case_back {n i N : Nat} {hX hM : AH} (C : LwE p s m meth c b L xs D cA w0) (R : RR n hX hM) (hn : n < 512) (hi : i + 6 ≤ L) (hN : N + 999 ≤ 600000) (kk : ∀ hX' hM', RR (n + 1) hX' hM' → LJ p l e s m below meth c b D cA w0 aX aM GX GM (N + 999) 1323 (loc4 b aX aM i) [] hX' hM') : LJ p l e s m below meth c b D cA w0 aX aM GX GM N 1264 (loc4 b aX aM i) [] hX hM := by
  refine LJ_x C dL_law_1264 ?_
  refine LJ_arg C (k := 1) (by omega) dL_law_1265 dL_law_1266 dL_law_1267 dL_law_1268 dL_law_1269 ?_
  refine LJ_callX (N := N) (d := 2) (b1 := 0) (zs := [xs (i + 1)]) (rest := []) C (Or.inl rfl) ml_RL_176 rfl (Nat.le_of_ble_eq_true rfl) rfl (Nat.zero_le _) dL_law_1270 (Nat.le_of_ble_eq_true rfl) (by omega) (q_back (dx := 0) (dm := 0) R hn (fun rx hX1 hm => hm)) (fun rx hX1 adx hm => ?_)
  refine LJ_m C dL_law_1273 ?_
  refine LJ_arg C (k := 1) (by omega) dL_law_1274 dL_law_1275 dL_law_1276 dL_law_1277 dL_law_1278 ?_
  refine LJ_callM (N := N + 0) (d := 2) (b1 := 0) (zs := [xs (i + 1)]) (rest := (rx.map (cv w0 adx)).toList ++ []) C (Or.inl rfl) ml_RL_179 rfl (Nat.le_of_ble_eq_true rfl) rfl (rest_le2 rx) dL_law_1279 (Nat.le_of_ble_eq_true rfl) (by omega) hm (fun rm hM1 adm hr => ?_)
  obtain ⟨v, rfl, rfl, R1⟩ := hr
  exact LJ_same C dL_law_1282 (by decide) (LJ_le (by omega) (kk hX1 hM1 R1))
set_option maxHeartbeats 2000000 in
theorem case_count {n i N : Nat} {hX hM : AH} (C : LwE p s m meth c b L xs D cA w0) (R : RR n hX hM) (hn : n < 512) (hi : i + 6 ≤ L) (hN : N + 999 ≤ 600000) (kk : ∀ hX' hM', RR (n + 1) hX' hM' → LJ p l e s m below meth c b D cA w0 aX aM GX GM (N + 999) 1323 (loc4 b aX aM i) [] hX' hM') : LJ p l e s m below meth c b D cA w0 aX aM GX GM N 1287 (loc4 b aX aM i) [] hX hM := by
  refine LJ_x C dL_law_1287 ?_
  refine LJ_arg C (k := 1) (by omega) dL_law_1288 dL_law_1289 dL_law_1290 dL_law_1291 dL_law_1292 ?_
  refine LJ_callX (N := N) (d := 2) (b1 := 0) (zs := [xs (i + 1)]) (rest := []) C (Or.inl rfl) ml_RL_180 rfl (Nat.le_of_ble_eq_true rfl) rfl (Nat.zero_le _) dL_law_1293 (Nat.le_of_ble_eq_true rfl) (by omega) (q_count (dx := 0) (dm := 0) R hn (fun rx hX1 hm => hm)) (fun rx hX1 adx hm => ?_)
  refine LJ_m C dL_law_1296 ?_
  refine LJ_arg C (k := 1) (by omega) dL_law_1297 dL_law_1298 dL_law_1299 dL_law_1300 dL_law_1301 ?_
  refine LJ_callM (N := N + 0) (d := 2) (b1 := 0) (zs := [xs (i + 1)]) (rest := (rx.map (cv w0 adx)).toList ++ []) C (Or.inl rfl) ml_RL_183 rfl (Nat.le_of_ble_eq_true rfl) rfl (rest_le2 rx) dL_law_1302 (Nat.le_of_ble_eq_true rfl) (by omega) hm (fun rm hM1 adm hr => ?_)
  obtain ⟨v, rfl, rfl, R1⟩ := hr
  exact LJ_same C dL_law_1305 (by decide) (LJ_le (by omega) (kk hX1 hM1 R1))
set_option maxHeartbeats 2000000 in
theorem case_status {n i N : Nat} {hX hM : AH} (C : LwE p s m meth c b L xs D cA w0) (R : RR n hX hM) (hn : n < 512) (hi : i + 6 ≤ L) (hN : N + 999 ≤ 600000) (kk : ∀ hX' hM', RR (n + 1) hX' hM' → LJ p l e s m below meth c b D cA w0 aX aM GX GM (N + 999) 1323 (loc4 b aX aM i) [] hX' hM') : LJ p l e s m below meth c b D cA w0 aX aM GX GM N 1310 (loc4 b aX aM i) [] hX hM := by
  refine LJ_x C dL_law_1310 ?_
  refine LJ_callX (N := N) (d := 0) (b1 := 0) (zs := []) (rest := []) C (Or.inl rfl) ml_RL_184 rfl (Nat.le_of_ble_eq_true rfl) rfl (Nat.zero_le _) dL_law_1311 (Nat.le_of_ble_eq_true rfl) (by omega) (q_status (dx := 0) (dm := 0) R hn (fun rx hX1 hm => hm)) (fun rx hX1 adx hm => ?_)
  refine LJ_m C dL_law_1314 ?_
  refine LJ_callM (N := N + 0) (d := 0) (b1 := 0) (zs := []) (rest := (rx.map (cv w0 adx)).toList ++ []) C (Or.inl rfl) ml_RL_187 rfl (Nat.le_of_ble_eq_true rfl) rfl (rest_le2 rx) dL_law_1315 (Nat.le_of_ble_eq_true rfl) (by omega) hm (fun rm hM1 adm hr => ?_)
  obtain ⟨v, rfl, rfl, R1⟩ := hr
  exact LJ_same C dL_law_1318 (by decide) (LJ_le (by omega) (kk hX1 hM1 R1))
theorem law_sw {n i N : Nat} {x : Int32} {hX hM : AH} (C : LwE p s m meth c b L xs D cA w0) (R : RR n hX hM) (hn : n < 512) (hi : i + 6 ≤ L) (hN : N + 999 ≤ 600000) (k0 : LJ p l e s m below meth c b D cA w0 aX aM GX GM (N + 999) 1323 (loc4 b aX aM i) [] hX hM) (k1 : ∀ hX' hM', RR (n + 1) hX' hM' → LJ p l e s m below meth c b D cA w0 aX aM GX GM (N + 999) 1323 (loc4 b aX aM i) [] hX' hM') : LJ p l e s m below meth c b D cA w0 aX aM GX GM N 33 (loc4 b aX aM i) [.int x] hX hM := by
  by_cases h : 0 ≤ x.toInt ∧ x.toInt ≤ 41
  · obtain ⟨v, hv⟩ : ∃ v : Nat, x.toInt = v := ⟨x.toInt.toNat, by omega⟩
    have hv42 : v < 42 := by omega
    match v, hv, hv42 with
    | 0, hv, _ => exact LJ_ts (off := 183) (tgt := 216) C dL_law_33 hv (by decide) (by decide) rfl (by decide) (case_house C R hn hi hN k1)
    | 1, hv, _ => exact LJ_ts (off := 206) (tgt := 239) C dL_law_33 hv (by decide) (by decide) rfl (by decide) (case_door C R hn hi hN k1)
    | 2, hv, _ => exact LJ_ts (off := 259) (tgt := 292) C dL_law_33 hv (by decide) (by decide) rfl (by decide) (case_of C R hn hi hN k1)
    | 3, hv, _ => exact LJ_ts (off := 292) (tgt := 325) C dL_law_33 hv (by decide) (by decide) rfl (by decide) (case_frame C R hn hi hN k1)
    | 4, hv, _ => exact LJ_ts (off := 325) (tgt := 358) C dL_law_33 hv (by decide) (by decide) rfl (by decide) (case_put C R hn hi hN k1)
    | 5, hv, _ => exact LJ_ts (off := 368) (tgt := 401) C dL_law_33 hv (by decide) (by decide) rfl (by decide) (case_at C R hn hi hN k1)
    | 6, hv, _ => exact LJ_ts (off := 401) (tgt := 434) C dL_law_33 hv (by decide) (by decide) rfl (by decide) (case_asks C R hn hi hN k1)
    | 7, hv, _ => exact LJ_ts (off := 444) (tgt := 477) C dL_law_33 hv (by decide) (by decide) rfl (by decide) (case_foe C R hn hi hN k1)
    | 8, hv, _ => exact LJ_ts (off := 467) (tgt := 500) C dL_law_33 hv (by decide) (by decide) rfl (by decide) (case_peace C R hn hi hN k1)
    | 9, hv, _ => exact LJ_ts (off := 480) (tgt := 513) C dL_law_33 hv (by decide) (by decide) rfl (by decide) (case_terms C R hn hi hN k1)
    | 10, hv, _ => exact LJ_ts (off := 513) (tgt := 546) C dL_law_33 hv (by decide) (by decide) rfl (by decide) (case_feed C R hn hi hN k1)
    | 11, hv, _ => exact LJ_ts (off := 576) (tgt := 609) C dL_law_33 hv (by decide) (by decide) rfl (by decide) (case_end C R hn hi hN k1)
    | 12, hv, _ => exact LJ_ts (off := 599) (tgt := 632) C dL_law_33 hv (by decide) (by decide) rfl (by decide) (case_row C R hn hi hN k1)
    | 13, hv, _ => exact LJ_ts (off := 612) (tgt := 645) C dL_law_33 hv (by decide) (by decide) rfl (by decide) (case_foam C R hn hi hN k1)
    | 14, hv, _ => exact LJ_ts (off := 625) (tgt := 658) C dL_law_33 hv (by decide) (by decide) rfl (by decide) (case_law C R hn hi hN k1)
    | 15, hv, _ => exact LJ_ts (off := 638) (tgt := 671) C dL_law_33 hv (by decide) (by decide) rfl (by decide) (case_orders C R hn hi hN k1)
    | 16, hv, _ => exact LJ_ts (off := 651) (tgt := 684) C dL_law_33 hv (by decide) (by decide) rfl (by decide) (case_fault C R hn hi hN k1)
    | 17, hv, _ => exact LJ_ts (off := 664) (tgt := 697) C dL_law_33 hv (by decide) (by decide) rfl (by decide) (case_stopped C R hn hi hN k1)
    | 18, hv, _ => exact LJ_ts (off := 677) (tgt := 710) C dL_law_33 hv (by decide) (by decide) rfl (by decide) (case_force C R hn hi hN k1)
    | 19, hv, _ => exact LJ_ts (off := 700) (tgt := 733) C dL_law_33 hv (by decide) (by decide) rfl (by decide) (case_launch C R hn hi hN k1)
    | 20, hv, _ => exact LJ_ts (off := 723) (tgt := 756) C dL_law_33 hv (by decide) (by decide) rfl (by decide) (case_sail C R hn hi hN k1)
    | 21, hv, _ => exact LJ_ts (off := 756) (tgt := 789) C dL_law_33 hv (by decide) (by decide) rfl (by decide) (case_fish C R hn hi hN k1)
    | 22, hv, _ => exact LJ_ts (off := 779) (tgt := 812) C dL_law_33 hv (by decide) (by decide) rfl (by decide) (case_hang C R hn hi hN k1)
    | 23, hv, _ => exact LJ_ts (off := 812) (tgt := 845) C dL_law_33 hv (by decide) (by decide) rfl (by decide) (case_tide C R hn hi hN k1)
    | 24, hv, _ => exact LJ_ts (off := 825) (tgt := 858) C dL_law_33 hv (by decide) (by decide) rfl (by decide) (case_undo C R hn hi hN k1)
    | 25, hv, _ => exact LJ_ts (off := 838) (tgt := 871) C dL_law_33 hv (by decide) (by decide) rfl (by decide) (case_fleet C R hn hi hN k1)
    | 26, hv, _ => exact LJ_ts (off := 871) (tgt := 904) C dL_law_33 hv (by decide) (by decide) rfl (by decide) (case_hanging C R hn hi hN k1)
    | 27, hv, _ => exact LJ_ts (off := 894) (tgt := 927) C dL_law_33 hv (by decide) (by decide) rfl (by decide) (case_right C R hn hi hN k1)
    | 28, hv, _ => exact LJ_ts (off := 907) (tgt := 940) C dL_law_33 hv (by decide) (by decide) rfl (by decide) (case_heard C R hn hi hN k1)
    | 29, hv, _ => exact LJ_ts (off := 940) (tgt := 973) C dL_law_33 hv (by decide) (by decide) rfl (by decide) (case_knock C R hn hi hN k1)
    | 30, hv, _ => exact LJ_ts (off := 963) (tgt := 996) C dL_law_33 hv (by decide) (by decide) rfl (by decide) (case_wreck C R hn hi hN k1)
    | 31, hv, _ => exact LJ_ts (off := 996) (tgt := 1029) C dL_law_33 hv (by decide) (by decide) rfl (by decide) (case_search C R hn hi hN k1)
    | 32, hv, _ => exact LJ_ts (off := 1029) (tgt := 1062) C dL_law_33 hv (by decide) (by decide) rfl (by decide) (case_afloat C R hn hi hN k1)
    | 33, hv, _ => exact LJ_ts (off := 1063) (tgt := 1096) C dL_law_33 hv (by decide) (by decide) rfl (by decide) (case_guards C R hn hi hN k1)
    | 34, hv, _ => exact LJ_ts (off := 1086) (tgt := 1119) C dL_law_33 hv (by decide) (by decide) rfl (by decide) (case_battle C R hn hi hN k1)
    | 35, hv, _ => exact LJ_ts (off := 1109) (tgt := 1142) C dL_law_33 hv (by decide) (by decide) rfl (by decide) (case_share C R hn hi hN k1)
    | 36, hv, _ => exact LJ_ts (off := 1142) (tgt := 1175) C dL_law_33 hv (by decide) (by decide) rfl (by decide) (case_summers C R hn hi hN k1)
    | 37, hv, _ => exact LJ_ts (off := 1175) (tgt := 1208) C dL_law_33 hv (by decide) (by decide) rfl (by decide) (case_drawn C R hn hi hN k1)
    | 38, hv, _ => exact LJ_ts (off := 1208) (tgt := 1241) C dL_law_33 hv (by decide) (by decide) rfl (by decide) (case_image C R hn hi hN k1)
    | 39, hv, _ => exact LJ_ts (off := 1231) (tgt := 1264) C dL_law_33 hv (by decide) (by decide) rfl (by decide) (case_back C R hn hi hN k1)
    | 40, hv, _ => exact LJ_ts (off := 1254) (tgt := 1287) C dL_law_33 hv (by decide) (by decide) rfl (by decide) (case_count C R hn hi hN k1)
    | 41, hv, _ => exact LJ_ts (off := 1277) (tgt := 1310) C dL_law_33 hv (by decide) (by decide) rfl (by decide) (case_status C R hn hi hN k1)
    | v + 42, hv, h42 => omega
  · exact LJ_tsOut (tgt := 1323) C dL_law_33 (by omega) (by decide) (LJ_le (by omega) k0)
end CASES
