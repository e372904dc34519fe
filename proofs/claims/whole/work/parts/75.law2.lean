/-! The law's cases. -/
section LWC0
variable {G : GC} {Qf : List Frame → Array Value → State → State → Prop} {M : Mem} {kc ks : Nat} {C : CE} {Y : Nat → Nat} {σ : St} {T a b sc n x : Nat} {S : Nat → Int32}
theorem q_addPlace (hW : LW G M C Y σ T a b sc n x S) (hT : T < 512) (hi : 5 * T + 5 ≤ n) (hn : n ≤ 2560) (hk : kc + 340 ≤ room_1.cells ∧ ks + 11000 ≤ room_1.slots) (K : KL G Qf Y T a b sc n x S (kc + 340) (ks + 11000)) : SWG G iL_law room_1 Qf 232 (LB sc x (Y 0) a b (5 * T)) [] M kc ks := by
  obtain ⟨hX, hR, hO, hD, ha, hb⟩ := id hW.1
  have hs := hW.2.1
  obtain rfl := hW.2.2
  obtain ⟨hk1, hk2⟩ := hk
  refine r_aload_n dL_law_232 rfl ?_
  refine r_aload_n dL_law_233 rfl ?_
  refine r_callSX (mi := iL_law) vL_143 dL_law_234 (h_addPlace hX hO ha) (hm := ⟨by omega, by omega⟩) (k := kI (fun r M1 h1 => ?_)) (kx := r_nox)
  obtain ⟨rfl, h0, hQ⟩ := h1
  obtain ⟨hR1, -, -, -⟩ := hW.1.hlp (Or.inl rfl) hQ
  have hs1 := hW.mid (Or.inl rfl) hQ
  refine r_istore dL_law_237 (k := ?_)
  refine r_aload_n dL_law_239 rfl ?_
  refine r_callV (mi := iL_law) vL_148 dL_law_240 hR1.o (m_addPlace hR1 hO) (hm := ⟨by omega, by omega⟩) (k := kI (fun r2 M2 h2 => ?_)) (kx := r_nox)
  obtain ⟨hP, hr2⟩ := h2
  obtain ⟨⟨C', hW2⟩, hL2, -⟩ := hW.step (T' := T + 1) (σ' := (opAddPlace σ ).1) (c := (opAddPlace σ ).2.1) (Or.inl rfl) hQ hP ((k_addPlace hO).up hT)
  exact tail_i (p := 243) (c := (opAddPlace σ ).2.1) (z := (opAddPlace σ ).2.2) dL_law_243 dL_law_245 dL_law_246 dL_law_249 dL_law_251 dL_law_256 dL_law_258 dL_law_261 dL_law_262 dL_law_263 dL_law_264 dL_law_266 dL_law_267 dL_law_268 dL_law_273 (by decide) hP.1 hP.2.1 hr2 (fun h => (congrFun hL2 0).trans (h0 h)) (by unfold opAddPlace; (repeat' split) <;> first | exact Nat.le_of_ble_eq_true rfl | exact wlc_le _ _ | exact svC_le _ _ _) hW2.1.2.2.2.2.1 ⟨by omega, by omega⟩ (r_wid (by omega) (by omega) (K M2 C' _ hW2))
theorem q_addStreet (hW : LW G M C Y σ T a b sc n x S) (hT : T < 512) (hi : 5 * T + 5 ≤ n) (hn : n ≤ 2560) (hk : kc + 340 ≤ room_1.cells ∧ ks + 11000 ≤ room_1.slots) (K : KL G Qf Y T a b sc n x S (kc + 340) (ks + 11000)) : SWG G iL_law room_1 Qf 276 (LB sc x (Y 0) a b (5 * T)) [] M kc ks := by
  obtain ⟨hX, hR, hO, hD, ha, hb⟩ := id hW.1
  have hs := hW.2.1
  obtain rfl := hW.2.2
  obtain ⟨hk1, hk2⟩ := hk
  refine r_aload_n dL_law_276 rfl ?_
  refine ld_scr (k := 1) dL_law_277 dL_law_278 dL_law_280 dL_law_281 dL_law_282 rfl rfl rfl hs (by omega) hn ?_
  refine ld_scr (k := 2) dL_law_283 dL_law_284 dL_law_286 dL_law_287 dL_law_288 rfl rfl rfl hs (by omega) hn ?_
  refine ld_scr (k := 3) dL_law_289 dL_law_290 dL_law_292 dL_law_293 dL_law_294 rfl rfl rfl hs (by omega) hn ?_
  refine ld_scr (k := 4) dL_law_295 dL_law_296 dL_law_298 dL_law_299 dL_law_300 rfl rfl rfl hs (by omega) hn ?_
  refine ld_bit dL_law_301 dL_law_304 dL_law_305 dL_law_308 (scr_in _) ?_
  refine r_aload_n dL_law_309 rfl ?_
  refine r_callSX (mi := iL_law) vL_152 dL_law_310 (h_addStreet hX hO ((S (5 * T + 1)).toInt) ((S (5 * T + 2)).toInt) ((S (5 * T + 3)).toInt) (decide ((S (5 * T + 4)).toInt ≠ 0)) (scr_in _) (scr_in _) (scr_in _) ha) (hm := ⟨by omega, by omega⟩) (k := kI (fun r M1 h1 => ?_)) (kx := r_nox)
  obtain ⟨rfl, h0, hQ⟩ := h1
  obtain ⟨hR1, -, -, -⟩ := hW.1.hlp (Or.inl rfl) hQ
  have hs1 := hW.mid (Or.inl rfl) hQ
  refine r_istore dL_law_313 (k := ?_)
  refine r_aload_n dL_law_315 rfl ?_
  refine ld_scr (k := 1) dL_law_316 dL_law_317 dL_law_319 dL_law_320 dL_law_321 rfl rfl rfl hs1 (by omega) hn ?_
  refine ld_scr (k := 2) dL_law_322 dL_law_323 dL_law_325 dL_law_326 dL_law_327 rfl rfl rfl hs1 (by omega) hn ?_
  refine ld_scr (k := 3) dL_law_328 dL_law_329 dL_law_331 dL_law_332 dL_law_333 rfl rfl rfl hs1 (by omega) hn ?_
  refine ld_scr (k := 4) dL_law_334 dL_law_335 dL_law_337 dL_law_338 dL_law_339 rfl rfl rfl hs1 (by omega) hn ?_
  refine ld_bit dL_law_340 dL_law_343 dL_law_344 dL_law_347 (scr_in _) ?_
  refine r_callV (mi := iL_law) vL_155 dL_law_348 hR1.o (m_addStreet hR1 hO ((S (5 * T + 1)).toInt) ((S (5 * T + 2)).toInt) ((S (5 * T + 3)).toInt) (decide ((S (5 * T + 4)).toInt ≠ 0)) (scr_in _) (scr_in _) (scr_in _)) (hm := ⟨by omega, by omega⟩) (k := kI (fun r2 M2 h2 => ?_)) (kx := r_nox)
  obtain ⟨hP, hr2⟩ := h2
  obtain ⟨⟨C', hW2⟩, hL2, -⟩ := hW.step (T' := T + 1) (σ' := (opAddStreet σ ((S (5 * T + 1)).toInt) ((S (5 * T + 2)).toInt) ((S (5 * T + 3)).toInt) (decide ((S (5 * T + 4)).toInt ≠ 0))).1) (c := (opAddStreet σ ((S (5 * T + 1)).toInt) ((S (5 * T + 2)).toInt) ((S (5 * T + 3)).toInt) (decide ((S (5 * T + 4)).toInt ≠ 0))).2.1) (Or.inl rfl) hQ hP ((k_addStreet hO ((S (5 * T + 1)).toInt) ((S (5 * T + 2)).toInt) ((S (5 * T + 3)).toInt) (decide ((S (5 * T + 4)).toInt ≠ 0))).up hT)
  exact tail_i (p := 351) (c := (opAddStreet σ ((S (5 * T + 1)).toInt) ((S (5 * T + 2)).toInt) ((S (5 * T + 3)).toInt) (decide ((S (5 * T + 4)).toInt ≠ 0))).2.1) (z := (opAddStreet σ ((S (5 * T + 1)).toInt) ((S (5 * T + 2)).toInt) ((S (5 * T + 3)).toInt) (decide ((S (5 * T + 4)).toInt ≠ 0))).2.2) dL_law_351 dL_law_353 dL_law_354 dL_law_357 dL_law_359 dL_law_364 dL_law_366 dL_law_369 dL_law_370 dL_law_371 dL_law_372 dL_law_374 dL_law_375 dL_law_376 dL_law_381 (by decide) hP.1 hP.2.1 hr2 (fun h => (congrFun hL2 0).trans (h0 h)) (by unfold opAddStreet; (repeat' split) <;> first | exact Nat.le_of_ble_eq_true rfl | exact wlc_le _ _ | exact svC_le _ _ _) hW2.1.2.2.2.2.1 ⟨by omega, by omega⟩ (r_wid (by omega) (by omega) (K M2 C' _ hW2))
theorem q_addHouse (hW : LW G M C Y σ T a b sc n x S) (hT : T < 512) (hi : 5 * T + 5 ≤ n) (hn : n ≤ 2560) (hk : kc + 340 ≤ room_1.cells ∧ ks + 11000 ≤ room_1.slots) (K : KL G Qf Y T a b sc n x S (kc + 340) (ks + 11000)) : SWG G iL_law room_1 Qf 384 (LB sc x (Y 0) a b (5 * T)) [] M kc ks := by
  obtain ⟨hX, hR, hO, hD, ha, hb⟩ := id hW.1
  have hs := hW.2.1
  obtain rfl := hW.2.2
  obtain ⟨hk1, hk2⟩ := hk
  refine r_aload_n dL_law_384 rfl ?_
  refine ld_scr (k := 1) dL_law_385 dL_law_386 dL_law_388 dL_law_389 dL_law_390 rfl rfl rfl hs (by omega) hn ?_
  refine ld_scr (k := 2) dL_law_391 dL_law_392 dL_law_394 dL_law_395 dL_law_396 rfl rfl rfl hs (by omega) hn ?_
  refine ld_scr (k := 3) dL_law_397 dL_law_398 dL_law_400 dL_law_401 dL_law_402 rfl rfl rfl hs (by omega) hn ?_
  refine r_aload_n dL_law_403 rfl ?_
  refine r_callSX (mi := iL_law) vL_156 dL_law_404 (h_addHouse hX hO ((S (5 * T + 1)).toInt) ((S (5 * T + 2)).toInt) ((S (5 * T + 3)).toInt) (scr_in _) (scr_in _) (scr_in _) ha) (hm := ⟨by omega, by omega⟩) (k := kI (fun r M1 h1 => ?_)) (kx := r_nox)
  obtain ⟨rfl, h0, hQ⟩ := h1
  obtain ⟨hR1, -, -, -⟩ := hW.1.hlp (Or.inl rfl) hQ
  have hs1 := hW.mid (Or.inl rfl) hQ
  refine r_istore dL_law_407 (k := ?_)
  refine r_aload_n dL_law_409 rfl ?_
  refine ld_scr (k := 1) dL_law_410 dL_law_411 dL_law_413 dL_law_414 dL_law_415 rfl rfl rfl hs1 (by omega) hn ?_
  refine ld_scr (k := 2) dL_law_416 dL_law_417 dL_law_419 dL_law_420 dL_law_421 rfl rfl rfl hs1 (by omega) hn ?_
  refine ld_scr (k := 3) dL_law_422 dL_law_423 dL_law_425 dL_law_426 dL_law_427 rfl rfl rfl hs1 (by omega) hn ?_
  refine r_callV (mi := iL_law) vL_159 dL_law_428 hR1.o (m_addHouse hR1 hO ((S (5 * T + 1)).toInt) ((S (5 * T + 2)).toInt) ((S (5 * T + 3)).toInt) (scr_in _) (scr_in _) (scr_in _)) (hm := ⟨by omega, by omega⟩) (k := kI (fun r2 M2 h2 => ?_)) (kx := r_nox)
  obtain ⟨hP, hr2⟩ := h2
  obtain ⟨⟨C', hW2⟩, hL2, -⟩ := hW.step (T' := T + 1) (σ' := (opAddHouse σ ((S (5 * T + 1)).toInt) ((S (5 * T + 2)).toInt) ((S (5 * T + 3)).toInt)).1) (c := (opAddHouse σ ((S (5 * T + 1)).toInt) ((S (5 * T + 2)).toInt) ((S (5 * T + 3)).toInt)).2.1) (Or.inl rfl) hQ hP ((k_addHouse hO ((S (5 * T + 1)).toInt) ((S (5 * T + 2)).toInt) ((S (5 * T + 3)).toInt)).up hT)
  exact tail_i (p := 431) (c := (opAddHouse σ ((S (5 * T + 1)).toInt) ((S (5 * T + 2)).toInt) ((S (5 * T + 3)).toInt)).2.1) (z := (opAddHouse σ ((S (5 * T + 1)).toInt) ((S (5 * T + 2)).toInt) ((S (5 * T + 3)).toInt)).2.2) dL_law_431 dL_law_433 dL_law_434 dL_law_437 dL_law_439 dL_law_444 dL_law_446 dL_law_449 dL_law_450 dL_law_451 dL_law_452 dL_law_454 dL_law_455 dL_law_456 dL_law_461 (by decide) hP.1 hP.2.1 hr2 (fun h => (congrFun hL2 0).trans (h0 h)) (by unfold opAddHouse; (repeat' split) <;> first | exact Nat.le_of_ble_eq_true rfl | exact wlc_le _ _ | exact svC_le _ _ _) hW2.1.2.2.2.2.1 ⟨by omega, by omega⟩ (r_wid (by omega) (by omega) (K M2 C' _ hW2))
theorem q_addRound (hW : LW G M C Y σ T a b sc n x S) (hT : T < 512) (hi : 5 * T + 5 ≤ n) (hn : n ≤ 2560) (hk : kc + 340 ≤ room_1.cells ∧ ks + 11000 ≤ room_1.slots) (K : KL G Qf Y T a b sc n x S (kc + 340) (ks + 11000)) : SWG G iL_law room_1 Qf 464 (LB sc x (Y 0) a b (5 * T)) [] M kc ks := by
  obtain ⟨hX, hR, hO, hD, ha, hb⟩ := id hW.1
  have hs := hW.2.1
  obtain rfl := hW.2.2
  obtain ⟨hk1, hk2⟩ := hk
  refine r_aload_n dL_law_464 rfl ?_
  refine ld_scr (k := 1) dL_law_465 dL_law_466 dL_law_468 dL_law_469 dL_law_470 rfl rfl rfl hs (by omega) hn ?_
  refine r_aload_n dL_law_471 rfl ?_
  refine r_callSX (mi := iL_law) vL_160 dL_law_472 (h_addRound hX hO ((S (5 * T + 1)).toInt) (scr_in _) ha) (hm := ⟨by omega, by omega⟩) (k := kI (fun r M1 h1 => ?_)) (kx := r_nox)
  obtain ⟨rfl, h0, hQ⟩ := h1
  obtain ⟨hR1, -, -, -⟩ := hW.1.hlp (Or.inl rfl) hQ
  have hs1 := hW.mid (Or.inl rfl) hQ
  refine r_istore dL_law_475 (k := ?_)
  refine r_aload_n dL_law_477 rfl ?_
  refine ld_scr (k := 1) dL_law_478 dL_law_479 dL_law_481 dL_law_482 dL_law_483 rfl rfl rfl hs1 (by omega) hn ?_
  refine r_callV (mi := iL_law) vL_163 dL_law_484 hR1.o (m_addRound hR1 hO ((S (5 * T + 1)).toInt) (scr_in _)) (hm := ⟨by omega, by omega⟩) (k := kI (fun r2 M2 h2 => ?_)) (kx := r_nox)
  obtain ⟨hP, hr2⟩ := h2
  obtain ⟨⟨C', hW2⟩, hL2, -⟩ := hW.step (T' := T + 1) (σ' := (opAddRound σ ((S (5 * T + 1)).toInt)).1) (c := (opAddRound σ ((S (5 * T + 1)).toInt)).2.1) (Or.inl rfl) hQ hP ((k_addRound hO ((S (5 * T + 1)).toInt)).up hT)
  exact tail_i (p := 487) (c := (opAddRound σ ((S (5 * T + 1)).toInt)).2.1) (z := (opAddRound σ ((S (5 * T + 1)).toInt)).2.2) dL_law_487 dL_law_489 dL_law_490 dL_law_493 dL_law_495 dL_law_500 dL_law_502 dL_law_505 dL_law_506 dL_law_507 dL_law_508 dL_law_510 dL_law_511 dL_law_512 dL_law_517 (by decide) hP.1 hP.2.1 hr2 (fun h => (congrFun hL2 0).trans (h0 h)) (by unfold opAddRound; (repeat' split) <;> first | exact Nat.le_of_ble_eq_true rfl | exact wlc_le _ _ | exact svC_le _ _ _) hW2.1.2.2.2.2.1 ⟨by omega, by omega⟩ (r_wid (by omega) (by omega) (K M2 C' _ hW2))
theorem q_assign (hW : LW G M C Y σ T a b sc n x S) (hT : T < 512) (hi : 5 * T + 5 ≤ n) (hn : n ≤ 2560) (hk : kc + 340 ≤ room_1.cells ∧ ks + 11000 ≤ room_1.slots) (K : KL G Qf Y T a b sc n x S (kc + 340) (ks + 11000)) : SWG G iL_law room_1 Qf 520 (LB sc x (Y 0) a b (5 * T)) [] M kc ks := by
  obtain ⟨hX, hR, hO, hD, ha, hb⟩ := id hW.1
  have hs := hW.2.1
  obtain rfl := hW.2.2
  obtain ⟨hk1, hk2⟩ := hk
  refine r_aload_n dL_law_520 rfl ?_
  refine ld_scr (k := 1) dL_law_521 dL_law_522 dL_law_524 dL_law_525 dL_law_526 rfl rfl rfl hs (by omega) hn ?_
  refine ld_scr (k := 2) dL_law_527 dL_law_528 dL_law_530 dL_law_531 dL_law_532 rfl rfl rfl hs (by omega) hn ?_
  refine r_aload_n dL_law_533 rfl ?_
  refine r_callSX (mi := iL_law) vL_164 dL_law_534 (h_assign hX hO ((S (5 * T + 1)).toInt) ((S (5 * T + 2)).toInt) (scr_in _) (scr_in _) ha) (hm := ⟨by omega, by omega⟩) (k := kI (fun r M1 h1 => ?_)) (kx := r_nox)
  obtain ⟨rfl, h0, hQ⟩ := h1
  obtain ⟨hR1, -, -, -⟩ := hW.1.hlp (Or.inl rfl) hQ
  have hs1 := hW.mid (Or.inl rfl) hQ
  refine r_istore dL_law_537 (k := ?_)
  refine r_aload_n dL_law_539 rfl ?_
  refine ld_scr (k := 1) dL_law_540 dL_law_541 dL_law_543 dL_law_544 dL_law_545 rfl rfl rfl hs1 (by omega) hn ?_
  refine ld_scr (k := 2) dL_law_546 dL_law_547 dL_law_549 dL_law_550 dL_law_551 rfl rfl rfl hs1 (by omega) hn ?_
  refine r_callV (mi := iL_law) vL_167 dL_law_552 hR1.o (m_assign hR1 hO ((S (5 * T + 1)).toInt) ((S (5 * T + 2)).toInt) (scr_in _) (scr_in _)) (hm := ⟨by omega, by omega⟩) (k := kI (fun r2 M2 h2 => ?_)) (kx := r_nox)
  obtain ⟨hP, hr2⟩ := h2
  obtain ⟨⟨C', hW2⟩, hL2, -⟩ := hW.step (T' := T + 1) (σ' := (opAssign σ ((S (5 * T + 1)).toInt) ((S (5 * T + 2)).toInt)).1) (c := (opAssign σ ((S (5 * T + 1)).toInt) ((S (5 * T + 2)).toInt)).2.1) (Or.inl rfl) hQ hP ((k_assign hO ((S (5 * T + 1)).toInt) ((S (5 * T + 2)).toInt)).up hT)
  exact tail_i (p := 555) (c := (opAssign σ ((S (5 * T + 1)).toInt) ((S (5 * T + 2)).toInt)).2.1) (z := (opAssign σ ((S (5 * T + 1)).toInt) ((S (5 * T + 2)).toInt)).2.2) dL_law_555 dL_law_557 dL_law_558 dL_law_561 dL_law_563 dL_law_568 dL_law_570 dL_law_573 dL_law_574 dL_law_575 dL_law_576 dL_law_578 dL_law_579 dL_law_580 dL_law_585 (by decide) hP.1 hP.2.1 hr2 (fun h => (congrFun hL2 0).trans (h0 h)) (by unfold opAssign; (repeat' split) <;> first | exact Nat.le_of_ble_eq_true rfl | exact wlc_le _ _ | exact svC_le _ _ _) hW2.1.2.2.2.2.1 ⟨by omega, by omega⟩ (r_wid (by omega) (by omega) (K M2 C' _ hW2))
theorem q_setBag (hW : LW G M C Y σ T a b sc n x S) (hT : T < 512) (hi : 5 * T + 5 ≤ n) (hn : n ≤ 2560) (hk : kc + 340 ≤ room_1.cells ∧ ks + 11000 ≤ room_1.slots) (K : KL G Qf Y T a b sc n x S (kc + 340) (ks + 11000)) : SWG G iL_law room_1 Qf 588 (LB sc x (Y 0) a b (5 * T)) [] M kc ks := by
  obtain ⟨hX, hR, hO, hD, ha, hb⟩ := id hW.1
  have hs := hW.2.1
  obtain rfl := hW.2.2
  obtain ⟨hk1, hk2⟩ := hk
  refine r_aload_n dL_law_588 rfl ?_
  refine ld_scr (k := 1) dL_law_589 dL_law_590 dL_law_592 dL_law_593 dL_law_594 rfl rfl rfl hs (by omega) hn ?_
  refine r_aload_n dL_law_595 rfl ?_
  refine r_callSX (mi := iL_law) vL_168 dL_law_596 (h_setBag hX hO ((S (5 * T + 1)).toInt) (scr_in _) ha) (hm := ⟨by omega, by omega⟩) (k := kI (fun r M1 h1 => ?_)) (kx := r_nox)
  obtain ⟨rfl, h0, hQ⟩ := h1
  obtain ⟨hR1, -, -, -⟩ := hW.1.hlp (Or.inl rfl) hQ
  have hs1 := hW.mid (Or.inl rfl) hQ
  refine r_istore dL_law_599 (k := ?_)
  refine r_aload_n dL_law_601 rfl ?_
  refine ld_scr (k := 1) dL_law_602 dL_law_603 dL_law_605 dL_law_606 dL_law_607 rfl rfl rfl hs1 (by omega) hn ?_
  refine r_callV (mi := iL_law) vL_170 dL_law_608 hR1.o (m_setBag hR1 ((S (5 * T + 1)).toInt) (scr_in _)) (hm := ⟨by omega, by omega⟩) (k := kI (fun r2 M2 h2 => ?_)) (kx := r_nox)
  obtain ⟨hP, hr2⟩ := h2
  obtain ⟨⟨C', hW2⟩, hL2, -⟩ := hW.step (T' := T + 1) (σ' := (opSetBag σ ((S (5 * T + 1)).toInt)).1) (c := (opSetBag σ ((S (5 * T + 1)).toInt)).2.1) (Or.inl rfl) hQ hP ((k_setBag hO ((S (5 * T + 1)).toInt)).up hT)
  exact tail_i (p := 611) (c := (opSetBag σ ((S (5 * T + 1)).toInt)).2.1) (z := (opSetBag σ ((S (5 * T + 1)).toInt)).2.2) dL_law_611 dL_law_613 dL_law_614 dL_law_617 dL_law_619 dL_law_624 dL_law_626 dL_law_629 dL_law_630 dL_law_631 dL_law_632 dL_law_634 dL_law_635 dL_law_636 dL_law_641 (by decide) hP.1 hP.2.1 hr2 (fun h => (congrFun hL2 0).trans (h0 h)) (by unfold opSetBag; (repeat' split) <;> first | exact Nat.le_of_ble_eq_true rfl | exact wlc_le _ _ | exact svC_le _ _ _) hW2.1.2.2.2.2.1 ⟨by omega, by omega⟩ (r_wid (by omega) (by omega) (K M2 C' _ hW2))
theorem q_letters (hW : LW G M C Y σ T a b sc n x S) (hT : T < 512) (hi : 5 * T + 5 ≤ n) (hn : n ≤ 2560) (hk : kc + 340 ≤ room_1.cells ∧ ks + 11000 ≤ room_1.slots) (K : KL G Qf Y T a b sc n x S (kc + 340) (ks + 11000)) : SWG G iL_law room_1 Qf 644 (LB sc x (Y 0) a b (5 * T)) [] M kc ks := by
  obtain ⟨hX, hR, hO, hD, ha, hb⟩ := id hW.1
  have hs := hW.2.1
  obtain rfl := hW.2.2
  obtain ⟨hk1, hk2⟩ := hk
  refine r_aload_n dL_law_644 rfl ?_
  refine ld_scr (k := 1) dL_law_645 dL_law_646 dL_law_648 dL_law_649 dL_law_650 rfl rfl rfl hs (by omega) hn ?_
  refine ld_scr (k := 2) dL_law_651 dL_law_652 dL_law_654 dL_law_655 dL_law_656 rfl rfl rfl hs (by omega) hn ?_
  refine r_aload_n dL_law_657 rfl ?_
  refine r_callSX (mi := iL_law) vL_171 dL_law_658 (h_letters hX hO ((S (5 * T + 1)).toInt) ((S (5 * T + 2)).toInt) (scr_in _) (scr_in _) ha) (hm := ⟨by omega, by omega⟩) (k := kI (fun r M1 h1 => ?_)) (kx := r_nox)
  obtain ⟨rfl, h0, hQ⟩ := h1
  obtain ⟨hR1, -, -, -⟩ := hW.1.hlp (Or.inl rfl) hQ
  have hs1 := hW.mid (Or.inl rfl) hQ
  refine r_istore dL_law_661 (k := ?_)
  refine r_aload_n dL_law_663 rfl ?_
  refine ld_scr (k := 1) dL_law_664 dL_law_665 dL_law_667 dL_law_668 dL_law_669 rfl rfl rfl hs1 (by omega) hn ?_
  refine ld_scr (k := 2) dL_law_670 dL_law_671 dL_law_673 dL_law_674 dL_law_675 rfl rfl rfl hs1 (by omega) hn ?_
  refine r_callV (mi := iL_law) vL_173 dL_law_676 hR1.o (m_letters hR1 hO ((S (5 * T + 1)).toInt) ((S (5 * T + 2)).toInt) (scr_in _) (scr_in _)) (hm := ⟨by omega, by omega⟩) (k := kI (fun r2 M2 h2 => ?_)) (kx := r_nox)
  obtain ⟨hP, hr2⟩ := h2
  obtain ⟨⟨C', hW2⟩, hL2, -⟩ := hW.step (T' := T + 1) (σ' := (opLetters σ ((S (5 * T + 1)).toInt) ((S (5 * T + 2)).toInt)).1) (c := (opLetters σ ((S (5 * T + 1)).toInt) ((S (5 * T + 2)).toInt)).2.1) (Or.inl rfl) hQ hP ((k_letters hO ((S (5 * T + 1)).toInt) ((S (5 * T + 2)).toInt)).up hT)
  exact tail_i (p := 679) (c := (opLetters σ ((S (5 * T + 1)).toInt) ((S (5 * T + 2)).toInt)).2.1) (z := (opLetters σ ((S (5 * T + 1)).toInt) ((S (5 * T + 2)).toInt)).2.2) dL_law_679 dL_law_681 dL_law_682 dL_law_685 dL_law_687 dL_law_692 dL_law_694 dL_law_697 dL_law_698 dL_law_699 dL_law_700 dL_law_702 dL_law_703 dL_law_704 dL_law_709 (by decide) hP.1 hP.2.1 hr2 (fun h => (congrFun hL2 0).trans (h0 h)) (by unfold opLetters; (repeat' split) <;> first | exact Nat.le_of_ble_eq_true rfl | exact wlc_le _ _ | exact svC_le _ _ _) hW2.1.2.2.2.2.1 ⟨by omega, by omega⟩ (r_wid (by omega) (by omega) (K M2 C' _ hW2))
theorem q_parcel (hW : LW G M C Y σ T a b sc n x S) (hT : T < 512) (hi : 5 * T + 5 ≤ n) (hn : n ≤ 2560) (hk : kc + 340 ≤ room_1.cells ∧ ks + 11000 ≤ room_1.slots) (K : KL G Qf Y T a b sc n x S (kc + 340) (ks + 11000)) : SWG G iL_law room_1 Qf 712 (LB sc x (Y 0) a b (5 * T)) [] M kc ks := by
  obtain ⟨hX, hR, hO, hD, ha, hb⟩ := id hW.1
  have hs := hW.2.1
  obtain rfl := hW.2.2
  obtain ⟨hk1, hk2⟩ := hk
  refine r_aload_n dL_law_712 rfl ?_
  refine ld_scr (k := 1) dL_law_713 dL_law_714 dL_law_716 dL_law_717 dL_law_718 rfl rfl rfl hs (by omega) hn ?_
  refine ld_scr (k := 2) dL_law_719 dL_law_720 dL_law_722 dL_law_723 dL_law_724 rfl rfl rfl hs (by omega) hn ?_
  refine ld_scr (k := 3) dL_law_725 dL_law_726 dL_law_728 dL_law_729 dL_law_730 rfl rfl rfl hs (by omega) hn ?_
  refine r_aload_n dL_law_731 rfl ?_
  refine r_callSX (mi := iL_law) vL_174 dL_law_732 (h_parcel hX hO ((S (5 * T + 1)).toInt) ((S (5 * T + 2)).toInt) ((S (5 * T + 3)).toInt) (scr_in _) (scr_in _) (scr_in _) ha) (hm := ⟨by omega, by omega⟩) (k := kI (fun r M1 h1 => ?_)) (kx := r_nox)
  obtain ⟨rfl, h0, hQ⟩ := h1
  obtain ⟨hR1, -, -, -⟩ := hW.1.hlp (Or.inl rfl) hQ
  have hs1 := hW.mid (Or.inl rfl) hQ
  refine r_istore dL_law_735 (k := ?_)
  refine r_aload_n dL_law_737 rfl ?_
  refine ld_scr (k := 1) dL_law_738 dL_law_739 dL_law_741 dL_law_742 dL_law_743 rfl rfl rfl hs1 (by omega) hn ?_
  refine ld_scr (k := 2) dL_law_744 dL_law_745 dL_law_747 dL_law_748 dL_law_749 rfl rfl rfl hs1 (by omega) hn ?_
  refine ld_scr (k := 3) dL_law_750 dL_law_751 dL_law_753 dL_law_754 dL_law_755 rfl rfl rfl hs1 (by omega) hn ?_
  refine r_callV (mi := iL_law) vL_176 dL_law_756 hR1.o (m_parcel hR1 hO ((S (5 * T + 1)).toInt) ((S (5 * T + 2)).toInt) ((S (5 * T + 3)).toInt) (scr_in _) (scr_in _) (scr_in _)) (hm := ⟨by omega, by omega⟩) (k := kI (fun r2 M2 h2 => ?_)) (kx := r_nox)
  obtain ⟨hP, hr2⟩ := h2
  obtain ⟨⟨C', hW2⟩, hL2, -⟩ := hW.step (T' := T + 1) (σ' := (opParcel σ ((S (5 * T + 1)).toInt) ((S (5 * T + 2)).toInt) ((S (5 * T + 3)).toInt)).1) (c := (opParcel σ ((S (5 * T + 1)).toInt) ((S (5 * T + 2)).toInt) ((S (5 * T + 3)).toInt)).2.1) (Or.inl rfl) hQ hP ((k_parcel hO ((S (5 * T + 1)).toInt) ((S (5 * T + 2)).toInt) ((S (5 * T + 3)).toInt)).up hT)
  exact tail_i (p := 759) (c := (opParcel σ ((S (5 * T + 1)).toInt) ((S (5 * T + 2)).toInt) ((S (5 * T + 3)).toInt)).2.1) (z := (opParcel σ ((S (5 * T + 1)).toInt) ((S (5 * T + 2)).toInt) ((S (5 * T + 3)).toInt)).2.2) dL_law_759 dL_law_761 dL_law_762 dL_law_765 dL_law_767 dL_law_772 dL_law_774 dL_law_777 dL_law_778 dL_law_779 dL_law_780 dL_law_782 dL_law_783 dL_law_784 dL_law_789 (by decide) hP.1 hP.2.1 hr2 (fun h => (congrFun hL2 0).trans (h0 h)) (by unfold opParcel; (repeat' split) <;> first | exact Nat.le_of_ble_eq_true rfl | exact wlc_le _ _ | exact svC_le _ _ _) hW2.1.2.2.2.2.1 ⟨by omega, by omega⟩ (r_wid (by omega) (by omega) (K M2 C' _ hW2))
theorem q_newDay (hW : LW G M C Y σ T a b sc n x S) (hT : T < 512) (hi : 5 * T + 5 ≤ n) (hn : n ≤ 2560) (hk : kc + 340 ≤ room_1.cells ∧ ks + 11000 ≤ room_1.slots) (K : KL G Qf Y T a b sc n x S (kc + 340) (ks + 11000)) : SWG G iL_law room_1 Qf 792 (LB sc x (Y 0) a b (5 * T)) [] M kc ks := by
  obtain ⟨hX, hR, hO, hD, ha, hb⟩ := id hW.1
  have hs := hW.2.1
  obtain rfl := hW.2.2
  obtain ⟨hk1, hk2⟩ := hk
  refine r_aload_n dL_law_792 rfl ?_
  refine r_callV (mi := iL_law) vL_177 dL_law_793 (hX.1.x 0 8 0) (y_newDay hX hO) (hm := ⟨by omega, by omega⟩) (k := kI (fun r M1 h1 => ?_)) (kx := r_nox)
  obtain ⟨-, rfl, hq⟩ := h1
  have hQ := hq_of hX.1 ha (Or.inl rfl) hq
  obtain ⟨hR1, -, -, -⟩ := hW.1.hlp (Or.inl rfl) hQ
  refine r_aload_n dL_law_796 rfl ?_
  refine r_callV (mi := iL_law) vL_180 dL_law_797 hR1.o (m_newDay hR1 hO) (hm := ⟨by omega, by omega⟩) (k := kI (fun r2 M2 h2 => ?_)) (kx := r_nox)
  obtain ⟨hP, hr2⟩ := h2
  have e := hr2 rfl
  subst e
  obtain ⟨⟨C', hW2⟩, -, -⟩ := hW.step (T' := T + 1) (Or.inl rfl) hQ hP ((k_newDay hO).up hT)
  refine r_icmp_same (tgt := 2566) dL_law_800 (by decide) ?_
  exact r_wid (by omega) (by omega) (K M2 C' _ hW2)
theorem q_places (hW : LW G M C Y σ T a b sc n x S) (hT : T < 512) (hi : 5 * T + 5 ≤ n) (hn : n ≤ 2560) (hk : kc + 340 ≤ room_1.cells ∧ ks + 11000 ≤ room_1.slots) (K : KL G Qf Y T a b sc n x S (kc + 340) (ks + 11000)) : SWG G iL_law room_1 Qf 805 (LB sc x (Y 0) a b (5 * T)) [] M kc ks := by
  obtain ⟨hX, hR, hO, hD, ha, hb⟩ := id hW.1
  have hs := hW.2.1
  obtain rfl := hW.2.2
  obtain ⟨hk1, hk2⟩ := hk
  refine r_aload_n dL_law_805 rfl ?_
  refine r_callV (mi := iL_law) vL_181 dL_law_806 (hX.1.x 0 8 0) (y_places hX) (hm := ⟨by omega, by omega⟩) (k := kI (fun r M1 h1 => ?_)) (kx := r_nox)
  obtain ⟨-, rfl, hq⟩ := h1
  have hQ := hq_of hX.1 ha (Or.inl rfl) hq
  obtain ⟨hR1, -, -, -⟩ := hW.1.hlp (Or.inl rfl) hQ
  refine r_aload_n dL_law_809 rfl ?_
  refine r_callV (mi := iL_law) vL_184 dL_law_810 hR1.o (m_places hR1) (hm := ⟨by omega, by omega⟩) (k := kI (fun r2 M2 h2 => ?_)) (kx := r_nox)
  obtain ⟨hP, hr2⟩ := h2
  have e := hr2 rfl
  subst e
  obtain ⟨⟨C', hW2⟩, -, -⟩ := hW.step (T' := T + 1) (Or.inl rfl) hQ hP (hO.up hT)
  refine r_icmp_same (tgt := 2566) dL_law_813 (by decide) ?_
  exact r_wid (by omega) (by omega) (K M2 C' _ hW2)
theorem q_streets (hW : LW G M C Y σ T a b sc n x S) (hT : T < 512) (hi : 5 * T + 5 ≤ n) (hn : n ≤ 2560) (hk : kc + 340 ≤ room_1.cells ∧ ks + 11000 ≤ room_1.slots) (K : KL G Qf Y T a b sc n x S (kc + 340) (ks + 11000)) : SWG G iL_law room_1 Qf 818 (LB sc x (Y 0) a b (5 * T)) [] M kc ks := by
  obtain ⟨hX, hR, hO, hD, ha, hb⟩ := id hW.1
  have hs := hW.2.1
  obtain rfl := hW.2.2
  obtain ⟨hk1, hk2⟩ := hk
  refine r_aload_n dL_law_818 rfl ?_
  refine r_callV (mi := iL_law) vL_185 dL_law_819 (hX.1.x 0 8 0) (y_streets hX) (hm := ⟨by omega, by omega⟩) (k := kI (fun r M1 h1 => ?_)) (kx := r_nox)
  obtain ⟨-, rfl, hq⟩ := h1
  have hQ := hq_of hX.1 ha (Or.inl rfl) hq
  obtain ⟨hR1, -, -, -⟩ := hW.1.hlp (Or.inl rfl) hQ
  refine r_aload_n dL_law_822 rfl ?_
  refine r_callV (mi := iL_law) vL_188 dL_law_823 hR1.o (m_streets hR1) (hm := ⟨by omega, by omega⟩) (k := kI (fun r2 M2 h2 => ?_)) (kx := r_nox)
  obtain ⟨hP, hr2⟩ := h2
  have e := hr2 rfl
  subst e
  obtain ⟨⟨C', hW2⟩, -, -⟩ := hW.step (T' := T + 1) (Or.inl rfl) hQ hP (hO.up hT)
  refine r_icmp_same (tgt := 2566) dL_law_826 (by decide) ?_
  exact r_wid (by omega) (by omega) (K M2 C' _ hW2)
theorem q_houses (hW : LW G M C Y σ T a b sc n x S) (hT : T < 512) (hi : 5 * T + 5 ≤ n) (hn : n ≤ 2560) (hk : kc + 340 ≤ room_1.cells ∧ ks + 11000 ≤ room_1.slots) (K : KL G Qf Y T a b sc n x S (kc + 340) (ks + 11000)) : SWG G iL_law room_1 Qf 831 (LB sc x (Y 0) a b (5 * T)) [] M kc ks := by
  obtain ⟨hX, hR, hO, hD, ha, hb⟩ := id hW.1
  have hs := hW.2.1
  obtain rfl := hW.2.2
  obtain ⟨hk1, hk2⟩ := hk
  refine r_aload_n dL_law_831 rfl ?_
  refine r_callV (mi := iL_law) vL_189 dL_law_832 (hX.1.x 0 8 0) (y_houses hX) (hm := ⟨by omega, by omega⟩) (k := kI (fun r M1 h1 => ?_)) (kx := r_nox)
  obtain ⟨-, rfl, hq⟩ := h1
  have hQ := hq_of hX.1 ha (Or.inl rfl) hq
  obtain ⟨hR1, -, -, -⟩ := hW.1.hlp (Or.inl rfl) hQ
  refine r_aload_n dL_law_835 rfl ?_
  refine r_callV (mi := iL_law) vL_192 dL_law_836 hR1.o (m_houses hR1) (hm := ⟨by omega, by omega⟩) (k := kI (fun r2 M2 h2 => ?_)) (kx := r_nox)
  obtain ⟨hP, hr2⟩ := h2
  have e := hr2 rfl
  subst e
  obtain ⟨⟨C', hW2⟩, -, -⟩ := hW.step (T' := T + 1) (Or.inl rfl) hQ hP (hO.up hT)
  refine r_icmp_same (tgt := 2566) dL_law_839 (by decide) ?_
  exact r_wid (by omega) (by omega) (K M2 C' _ hW2)
theorem q_roundOf (hW : LW G M C Y σ T a b sc n x S) (hT : T < 512) (hi : 5 * T + 5 ≤ n) (hn : n ≤ 2560) (hk : kc + 340 ≤ room_1.cells ∧ ks + 11000 ≤ room_1.slots) (K : KL G Qf Y T a b sc n x S (kc + 340) (ks + 11000)) : SWG G iL_law room_1 Qf 844 (LB sc x (Y 0) a b (5 * T)) [] M kc ks := by
  obtain ⟨hX, hR, hO, hD, ha, hb⟩ := id hW.1
  have hs := hW.2.1
  obtain rfl := hW.2.2
  obtain ⟨hk1, hk2⟩ := hk
  refine r_aload_n dL_law_844 rfl ?_
  refine ld_scr (k := 1) dL_law_845 dL_law_846 dL_law_848 dL_law_849 dL_law_850 rfl rfl rfl hs (by omega) hn ?_
  refine r_aload_n dL_law_851 rfl ?_
  refine r_callSX (mi := iL_law) vL_193 dL_law_852 (h_roundOf hX hO ((S (5 * T + 1)).toInt) (scr_in _) ha) (hm := ⟨by omega, by omega⟩) (k := kI (fun r M1 h1 => ?_)) (kx := r_nox)
  obtain ⟨rfl, h0, hQ⟩ := h1
  obtain ⟨hR1, -, -, -⟩ := hW.1.hlp (Or.inl rfl) hQ
  have hs1 := hW.mid (Or.inl rfl) hQ
  refine r_istore dL_law_855 (k := ?_)
  refine r_aload_n dL_law_857 rfl ?_
  refine ld_scr (k := 1) dL_law_858 dL_law_859 dL_law_861 dL_law_862 dL_law_863 rfl rfl rfl hs1 (by omega) hn ?_
  refine r_callV (mi := iL_law) vL_195 dL_law_864 hR1.o (m_roundOf hR1 hO ((S (5 * T + 1)).toInt) (scr_in _)) (hm := ⟨by omega, by omega⟩) (k := kI (fun r2 M2 h2 => ?_)) (kx := r_nox)
  obtain ⟨hP, hr2⟩ := h2
  obtain ⟨⟨C', hW2⟩, hL2, -⟩ := hW.step (T' := T + 1) (σ' := (opRoundOf σ ((S (5 * T + 1)).toInt)).1) (c := (opRoundOf σ ((S (5 * T + 1)).toInt)).2.1) (Or.inl rfl) hQ hP ((by rw [show (opRoundOf σ ((S (5 * T + 1)).toInt)).1 = σ from by unfold opRoundOf; (repeat' split) <;> rfl]; exact hO.up hT))
  exact tail_i (p := 867) (c := (opRoundOf σ ((S (5 * T + 1)).toInt)).2.1) (z := (opRoundOf σ ((S (5 * T + 1)).toInt)).2.2) dL_law_867 dL_law_869 dL_law_870 dL_law_873 dL_law_875 dL_law_880 dL_law_882 dL_law_885 dL_law_886 dL_law_887 dL_law_888 dL_law_890 dL_law_891 dL_law_892 dL_law_897 (by decide) hP.1 hP.2.1 hr2 (fun h => (congrFun hL2 0).trans (h0 h)) (by unfold opRoundOf; (repeat' split) <;> first | exact Nat.le_of_ble_eq_true rfl | exact wlc_le _ _ | exact svC_le _ _ _) hW2.1.2.2.2.2.1 ⟨by omega, by omega⟩ (r_wid (by omega) (by omega) (K M2 C' _ hW2))
theorem q_houseAt (hW : LW G M C Y σ T a b sc n x S) (hT : T < 512) (hi : 5 * T + 5 ≤ n) (hn : n ≤ 2560) (hk : kc + 340 ≤ room_1.cells ∧ ks + 11000 ≤ room_1.slots) (K : KL G Qf Y T a b sc n x S (kc + 340) (ks + 11000)) : SWG G iL_law room_1 Qf 900 (LB sc x (Y 0) a b (5 * T)) [] M kc ks := by
  obtain ⟨hX, hR, hO, hD, ha, hb⟩ := id hW.1
  have hs := hW.2.1
  obtain rfl := hW.2.2
  obtain ⟨hk1, hk2⟩ := hk
  refine r_aload_n dL_law_900 rfl ?_
  refine ld_scr (k := 1) dL_law_901 dL_law_902 dL_law_904 dL_law_905 dL_law_906 rfl rfl rfl hs (by omega) hn ?_
  refine ld_scr (k := 2) dL_law_907 dL_law_908 dL_law_910 dL_law_911 dL_law_912 rfl rfl rfl hs (by omega) hn ?_
  refine ld_scr (k := 3) dL_law_913 dL_law_914 dL_law_916 dL_law_917 dL_law_918 rfl rfl rfl hs (by omega) hn ?_
  refine r_aload_n dL_law_919 rfl ?_
  refine r_callSX (mi := iL_law) vL_196 dL_law_920 (h_houseAt hX hO ((S (5 * T + 1)).toInt) ((S (5 * T + 2)).toInt) ((S (5 * T + 3)).toInt) (scr_in _) (scr_in _) (scr_in _) ha) (hm := ⟨by omega, by omega⟩) (k := kI (fun r M1 h1 => ?_)) (kx := r_nox)
  obtain ⟨rfl, h0, hQ⟩ := h1
  obtain ⟨hR1, -, -, -⟩ := hW.1.hlp (Or.inl rfl) hQ
  have hs1 := hW.mid (Or.inl rfl) hQ
  refine r_istore dL_law_923 (k := ?_)
  refine r_aload_n dL_law_925 rfl ?_
  refine ld_scr (k := 1) dL_law_926 dL_law_927 dL_law_929 dL_law_930 dL_law_931 rfl rfl rfl hs1 (by omega) hn ?_
  refine ld_scr (k := 2) dL_law_932 dL_law_933 dL_law_935 dL_law_936 dL_law_937 rfl rfl rfl hs1 (by omega) hn ?_
  refine ld_scr (k := 3) dL_law_938 dL_law_939 dL_law_941 dL_law_942 dL_law_943 rfl rfl rfl hs1 (by omega) hn ?_
  refine r_callV (mi := iL_law) vL_198 dL_law_944 hR1.o (m_houseAt hR1 hO ((S (5 * T + 1)).toInt) ((S (5 * T + 2)).toInt) ((S (5 * T + 3)).toInt) (scr_in _) (scr_in _) (scr_in _)) (hm := ⟨by omega, by omega⟩) (k := kI (fun r2 M2 h2 => ?_)) (kx := r_nox)
  obtain ⟨hP, hr2⟩ := h2
  obtain ⟨⟨C', hW2⟩, hL2, -⟩ := hW.step (T' := T + 1) (σ' := (opHouseAt σ ((S (5 * T + 1)).toInt) ((S (5 * T + 2)).toInt) ((S (5 * T + 3)).toInt)).1) (c := (opHouseAt σ ((S (5 * T + 1)).toInt) ((S (5 * T + 2)).toInt) ((S (5 * T + 3)).toInt)).2.1) (Or.inl rfl) hQ hP ((by rw [show (opHouseAt σ ((S (5 * T + 1)).toInt) ((S (5 * T + 2)).toInt) ((S (5 * T + 3)).toInt)).1 = σ from by unfold opHouseAt; (repeat' split) <;> rfl]; exact hO.up hT))
  exact tail_i (p := 947) (c := (opHouseAt σ ((S (5 * T + 1)).toInt) ((S (5 * T + 2)).toInt) ((S (5 * T + 3)).toInt)).2.1) (z := (opHouseAt σ ((S (5 * T + 1)).toInt) ((S (5 * T + 2)).toInt) ((S (5 * T + 3)).toInt)).2.2) dL_law_947 dL_law_949 dL_law_950 dL_law_953 dL_law_955 dL_law_960 dL_law_962 dL_law_965 dL_law_966 dL_law_967 dL_law_968 dL_law_970 dL_law_971 dL_law_972 dL_law_977 (by decide) hP.1 hP.2.1 hr2 (fun h => (congrFun hL2 0).trans (h0 h)) (by unfold opHouseAt; (repeat' split) <;> first | exact Nat.le_of_ble_eq_true rfl | exact wlc_le _ _ | exact svC_le _ _ _) hW2.1.2.2.2.2.1 ⟨by omega, by omega⟩ (r_wid (by omega) (by omega) (K M2 C' _ hW2))
end LWC0
