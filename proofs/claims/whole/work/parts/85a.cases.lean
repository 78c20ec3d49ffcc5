/-! the law's cases 0 to 15 (printed by g85.py) -/
theorem lc_append {G : GT} {X : CT} {cells slots b L : Nat} {xs : Nat → Int32} {i : Int} {V : VV} {S : Su} {P : Pl} (A : LA G X b L xs) (hi : 0 ≤ i) (hi2 : i + 6 ≤ (L : Int)) (h : RV V S P) (hc : cells + 10 ≤ 601024) (hs : slots + 60 ≤ 7293034) (K : Nx G X b i cells slots) : At G X cells slots 312 (LV G b i) [] V := by
  obtain ⟨e, V1, bb, V2, h1, h2, h3, h4, S', P', h5⟩ := op_append (sv_rg (xs := xs) (k := i + 1)) (sv_rg (xs := xs) (k := i + 2)) (sv_rg (xs := xs) (k := i + 3)) (sv_rg (xs := xs) (k := i + 4)) (sv_rg (xs := xs) (k := i + 5)) V S P h
  have hN : gN G = 155 := A.2.2.2.2.2.1
  have C := A.1
  refine r_aload_n C dL_law_312 rfl ?_
  refine ld_arg A dL_law_313 dL_law_314 dL_law_316 dL_law_317 dL_law_318 rfl rfl (by omega) (by omega) ?_
  refine ld_arg A dL_law_319 dL_law_320 dL_law_322 dL_law_323 dL_law_324 rfl rfl (by omega) (by omega) ?_
  refine ld_arg A dL_law_325 dL_law_326 dL_law_328 dL_law_329 dL_law_330 rfl rfl (by omega) (by omega) ?_
  refine ld_arg A dL_law_331 dL_law_332 dL_law_334 dL_law_335 dL_law_336 rfl rfl (by omega) (by omega) ?_
  refine ld_arg A dL_law_337 dL_law_338 dL_law_340 dL_law_341 dL_law_342 rfl rfl (by omega) (by omega) ?_
  refine r_aload_n C dL_law_343 rfl ?_
  refine q_callW (n := 7) (As := [.ref (gB G + 0), vI (sv xs (i + 1)), vI (sv xs (i + 2)), vI (sv xs (i + 3)), vI (sv xs (i + 4)), vI (sv xs (i + 5)), .ref (gB G + 154)]) (rest := []) C A.2.2.1 A.2.2.2.1 dL_law_344 lL_160 whL_append wiL (by decide +kernel) (by decide +kernel) (ew_append C.lt hN A.2.2.2.2.2.2.1 h1) rfl rfl (Nat.le_of_ble_eq_true rfl) (Nat.le_of_ble_eq_true rfl) (Nat.le_of_ble_eq_true rfl) (show cells + 1 ≤ 601024 by omega) (show slots + 6 ≤ 7293034 by omega) ?_
  obtain ⟨z, hz, hz2⟩ := oGI_ex (G := G) (e := e)
  rw [hz]
  refine AtH.gO (z := z) ?_
  have A2 := A.gO (z := z)
  have C2 := A2.1
  show At (gO G z) X (cells + 1) (slots + 6) 347 (LV (gO G z) b i) [vI (cod [eS] e)] V1
  refine x_istore A2.2.2.2.2.1 C2 dL_law_347 rfl ?_
  refine r_aload_n C2 dL_law_349 rfl ?_
  refine ld_arg A2 dL_law_350 dL_law_351 dL_law_353 dL_law_354 dL_law_355 rfl rfl (by omega) (by omega) ?_
  refine ld_arg A2 dL_law_356 dL_law_357 dL_law_359 dL_law_360 dL_law_361 rfl rfl (by omega) (by omega) ?_
  refine ld_arg A2 dL_law_362 dL_law_363 dL_law_365 dL_law_366 dL_law_367 rfl rfl (by omega) (by omega) ?_
  refine ld_arg A2 dL_law_368 dL_law_369 dL_law_371 dL_law_372 dL_law_373 rfl rfl (by omega) (by omega) ?_
  refine ld_arg A2 dL_law_374 dL_law_375 dL_law_377 dL_law_378 dL_law_379 rfl rfl (by omega) (by omega) ?_
  refine q_callV (kk0 := 148) (As := [vI (sv xs (i + 1)), vI (sv xs (i + 2)), vI (sv xs (i + 3)), vI (sv xs (i + 4)), vI (sv xs (i + 5))]) (rest := []) C2 A2.2.2.2.1 dL_law_380 lL_165 w6_append (rc_model (show 154 ≤ gN G by omega)) (ev6_append C2.lt (show 154 ≤ gN G by omega) h2) rfl rfl (Nat.le_of_ble_eq_true rfl) (Nat.le_of_ble_eq_true rfl) (Nat.le_of_ble_eq_true rfl) (show cells + 1 ≤ 601024 by omega) (show slots + 6 ≤ 7293034 by omega) ?_
  show At (gO G z) X (cells + 1) (slots + 6) 383 ((5, vI (cod [eS] e)) :: LV (gO G z) b i) [vI bb] V2
  refine x_istore A2.2.2.2.2.1 C2 dL_law_383 rfl ?_
  refine tl_I A2 h3 cod_rg (fun c => ?_) (by omega) (by omega) dL_law_385 dL_law_386 dL_law_389 dL_law_391 dL_law_396 dL_law_398 dL_law_401 dL_law_402 dL_law_403 dL_law_404 dL_law_406 dL_law_407 dL_law_408 dL_law_413 rfl (K.gO V2 S' P' _ _ h5 (by omega) (by omega))
  obtain ⟨r, hr⟩ := cod_e c
  have e1 := hz2 r hr
  have e2 := h4 r hr
  rw [gO_6 (by rw [e1]; exact (rg_nrm r).1), e1, e2]
theorem lc_truncate {G : GT} {X : CT} {cells slots b L : Nat} {xs : Nat → Int32} {i : Int} {V : VV} {S : Su} {P : Pl} (A : LA G X b L xs) (hi : 0 ≤ i) (hi2 : i + 6 ≤ (L : Int)) (h : RV V S P) (hc : cells + 10 ≤ 601024) (hs : slots + 60 ≤ 7293034) (K : Nx G X b i cells slots) : At G X cells slots 416 (LV G b i) [] V := by
  obtain ⟨e, V1, bb, V2, h1, h2, h3, h4, S', P', h5⟩ := op_truncate (sv_rg (xs := xs) (k := i + 1)) V S P h
  have hN : gN G = 155 := A.2.2.2.2.2.1
  have C := A.1
  refine r_aload_n C dL_law_416 rfl ?_
  refine ld_arg A dL_law_417 dL_law_418 dL_law_420 dL_law_421 dL_law_422 rfl rfl (by omega) (by omega) ?_
  refine r_aload_n C dL_law_423 rfl ?_
  refine q_callW (n := 3) (As := [.ref (gB G + 0), vI (sv xs (i + 1)), .ref (gB G + 154)]) (rest := []) C A.2.2.1 A.2.2.2.1 dL_law_424 lL_169 whL_truncate wiL (by decide +kernel) (by decide +kernel) (ew_truncate C.lt hN A.2.2.2.2.2.2.1 h1) rfl rfl (Nat.le_of_ble_eq_true rfl) (Nat.le_of_ble_eq_true rfl) (Nat.le_of_ble_eq_true rfl) (show cells + 1 ≤ 601024 by omega) (show slots + 6 ≤ 7293034 by omega) ?_
  obtain ⟨z, hz, hz2⟩ := oGI_ex (G := G) (e := e)
  rw [hz]
  refine AtH.gO (z := z) ?_
  have A2 := A.gO (z := z)
  have C2 := A2.1
  show At (gO G z) X (cells + 1) (slots + 6) 427 (LV (gO G z) b i) [vI (cod [eA] e)] V1
  refine x_istore A2.2.2.2.2.1 C2 dL_law_427 rfl ?_
  refine r_aload_n C2 dL_law_429 rfl ?_
  refine ld_arg A2 dL_law_430 dL_law_431 dL_law_433 dL_law_434 dL_law_435 rfl rfl (by omega) (by omega) ?_
  refine q_callV (kk0 := 148) (As := [vI (sv xs (i + 1))]) (rest := []) C2 A2.2.2.2.1 dL_law_436 lL_172 w6_truncate (rc_model (show 154 ≤ gN G by omega)) (ev6_truncate C2.lt (show 154 ≤ gN G by omega) h2) rfl rfl (Nat.le_of_ble_eq_true rfl) (Nat.le_of_ble_eq_true rfl) (Nat.le_of_ble_eq_true rfl) (show cells + 1 ≤ 601024 by omega) (show slots + 6 ≤ 7293034 by omega) ?_
  show At (gO G z) X (cells + 1) (slots + 6) 439 ((5, vI (cod [eA] e)) :: LV (gO G z) b i) [vI bb] V2
  refine x_istore A2.2.2.2.2.1 C2 dL_law_439 rfl ?_
  refine tl_I A2 h3 cod_rg (fun c => ?_) (by omega) (by omega) dL_law_441 dL_law_442 dL_law_445 dL_law_447 dL_law_452 dL_law_454 dL_law_457 dL_law_458 dL_law_459 dL_law_460 dL_law_462 dL_law_463 dL_law_464 dL_law_469 rfl (K.gO V2 S' P' _ _ h5 (by omega) (by omega))
  obtain ⟨r, hr⟩ := cod_e c
  have e1 := hz2 r hr
  have e2 := h4 r hr
  rw [gO_6 (by rw [e1]; exact (rg_nrm r).1), e1, e2]
theorem lc_load {G : GT} {X : CT} {cells slots b L : Nat} {xs : Nat → Int32} {i : Int} {V : VV} {S : Su} {P : Pl} (A : LA G X b L xs) (hi : 0 ≤ i) (hi2 : i + 6 ≤ (L : Int)) (h : RV V S P) (hc : cells + 10 ≤ 601024) (hs : slots + 60 ≤ 7293034) (K : Nx G X b i cells slots) : At G X cells slots 472 (LV G b i) [] V := by
  obtain ⟨e, V1, bb, V2, h1, h2, h3, h4, S', P', h5⟩ := op_load  V S P h
  have hN : gN G = 155 := A.2.2.2.2.2.1
  have C := A.1
  refine r_aload_n C dL_law_472 rfl ?_
  refine r_aload_n C dL_law_473 rfl ?_
  refine q_callW (n := 2) (As := [.ref (gB G + 0), .ref (gB G + 154)]) (rest := []) C A.2.2.1 A.2.2.2.1 dL_law_474 lL_173 whL_load wiL (by decide +kernel) (by decide +kernel) (ew_load C.lt hN A.2.2.2.2.2.2.1 h1) rfl rfl (Nat.le_of_ble_eq_true rfl) (Nat.le_of_ble_eq_true rfl) (Nat.le_of_ble_eq_true rfl) (show cells + 1 ≤ 601024 by omega) (show slots + 6 ≤ 7293034 by omega) ?_
  obtain ⟨z, hz, hz2⟩ := oGI_ex (G := G) (e := e)
  rw [hz]
  refine AtH.gO (z := z) ?_
  have A2 := A.gO (z := z)
  have C2 := A2.1
  show At (gO G z) X (cells + 1) (slots + 6) 477 (LV (gO G z) b i) [vI (cod [eA] e)] V1
  refine x_istore A2.2.2.2.2.1 C2 dL_law_477 rfl ?_
  refine r_aload_n C2 dL_law_479 rfl ?_
  refine q_callV (kk0 := 148) (As := []) (rest := []) C2 A2.2.2.2.1 dL_law_480 lL_176 w6_load (rc_model (show 154 ≤ gN G by omega)) (ev6_load C2.lt (show 154 ≤ gN G by omega) h2) rfl rfl (Nat.le_of_ble_eq_true rfl) (Nat.le_of_ble_eq_true rfl) (Nat.le_of_ble_eq_true rfl) (show cells + 1 ≤ 601024 by omega) (show slots + 6 ≤ 7293034 by omega) ?_
  show At (gO G z) X (cells + 1) (slots + 6) 483 ((5, vI (cod [eA] e)) :: LV (gO G z) b i) [vI bb] V2
  refine x_istore A2.2.2.2.2.1 C2 dL_law_483 rfl ?_
  refine tl_I A2 h3 cod_rg (fun c => ?_) (by omega) (by omega) dL_law_485 dL_law_486 dL_law_489 dL_law_491 dL_law_496 dL_law_498 dL_law_501 dL_law_502 dL_law_503 dL_law_504 dL_law_506 dL_law_507 dL_law_508 dL_law_513 rfl (K.gO V2 S' P' _ _ h5 (by omega) (by omega))
  obtain ⟨r, hr⟩ := cod_e c
  have e1 := hz2 r hr
  have e2 := h4 r hr
  rw [gO_6 (by rw [e1]; exact (rg_nrm r).1), e1, e2]
theorem lc_errorCode {G : GT} {X : CT} {cells slots b L : Nat} {xs : Nat → Int32} {i : Int} {V : VV} {S : Su} {P : Pl} (A : LA G X b L xs) (hi : 0 ≤ i) (hi2 : i + 6 ≤ (L : Int)) (h : RV V S P) (hc : cells + 10 ≤ 601024) (hs : slots + 60 ≤ 7293034) (K : Nx G X b i cells slots) : At G X cells slots 516 (LV G b i) [] V := by
  obtain ⟨r, V2, h1, h2, S', P', h5⟩ := op_errorCode V S P h
  have hN : gN G = 155 := A.2.2.2.2.2.1
  have C := A.1
  refine r_aload_n C dL_law_516 rfl ?_
  refine q_callV (kk0 := 0) (As := []) (rest := []) C A.2.2.2.1 dL_law_517 lL_177 w5_errorCode (rc_main (by omega)) (ev5_errorCode C.lt (by omega) h1) rfl rfl (Nat.le_of_ble_eq_true rfl) (Nat.le_of_ble_eq_true rfl) (Nat.le_of_ble_eq_true rfl) (show cells ≤ 601024 by omega) (show slots ≤ 7293034 by omega) ?_
  show At G X cells slots 520 (LV G b i) [vI r] V
  refine r_aload_n C dL_law_520 rfl ?_
  refine q_callV (kk0 := 148) (As := []) (rest := [vI r]) C A.2.2.2.1 dL_law_521 lL_180 w6_errorCode (rc_model (by omega)) (ev6_errorCode C.lt (by omega) h2) rfl rfl (Nat.le_of_ble_eq_true rfl) (Nat.le_of_ble_eq_true rfl) (Nat.le_of_ble_eq_true rfl) (show cells ≤ 601024 by omega) (show slots ≤ 7293034 by omega) ?_
  show At G X cells slots 524 (LV G b i) [vI r, vI r] V2
  refine x_icmpeq (tgt := 3481) C dL_law_524 rfl (fun _ => ?_) (fun c => absurd rfl c)
  exact K.self V2 S' P' _ _ h5 (by omega) (by omega)
theorem lc_errorPosition {G : GT} {X : CT} {cells slots b L : Nat} {xs : Nat → Int32} {i : Int} {V : VV} {S : Su} {P : Pl} (A : LA G X b L xs) (hi : 0 ≤ i) (hi2 : i + 6 ≤ (L : Int)) (h : RV V S P) (hc : cells + 10 ≤ 601024) (hs : slots + 60 ≤ 7293034) (K : Nx G X b i cells slots) : At G X cells slots 529 (LV G b i) [] V := by
  obtain ⟨r, V2, h1, h2, S', P', h5⟩ := op_errorPosition V S P h
  have hN : gN G = 155 := A.2.2.2.2.2.1
  have C := A.1
  refine r_aload_n C dL_law_529 rfl ?_
  refine q_callV (kk0 := 0) (As := []) (rest := []) C A.2.2.2.1 dL_law_530 lL_181 w5_errorPosition (rc_main (by omega)) (ev5_errorPosition C.lt (by omega) h1) rfl rfl (Nat.le_of_ble_eq_true rfl) (Nat.le_of_ble_eq_true rfl) (Nat.le_of_ble_eq_true rfl) (show cells ≤ 601024 by omega) (show slots ≤ 7293034 by omega) ?_
  show At G X cells slots 533 (LV G b i) [vI r] V
  refine r_aload_n C dL_law_533 rfl ?_
  refine q_callV (kk0 := 148) (As := []) (rest := [vI r]) C A.2.2.2.1 dL_law_534 lL_184 w6_errorPosition (rc_model (by omega)) (ev6_errorPosition C.lt (by omega) h2) rfl rfl (Nat.le_of_ble_eq_true rfl) (Nat.le_of_ble_eq_true rfl) (Nat.le_of_ble_eq_true rfl) (show cells ≤ 601024 by omega) (show slots ≤ 7293034 by omega) ?_
  show At G X cells slots 537 (LV G b i) [vI r, vI r] V2
  refine x_icmpeq (tgt := 3481) C dL_law_537 rfl (fun _ => ?_) (fun c => absurd rfl c)
  exact K.self V2 S' P' _ _ h5 (by omega) (by omega)
theorem lc_shipCount {G : GT} {X : CT} {cells slots b L : Nat} {xs : Nat → Int32} {i : Int} {V : VV} {S : Su} {P : Pl} (A : LA G X b L xs) (hi : 0 ≤ i) (hi2 : i + 6 ≤ (L : Int)) (h : RV V S P) (hc : cells + 10 ≤ 601024) (hs : slots + 60 ≤ 7293034) (K : Nx G X b i cells slots) : At G X cells slots 542 (LV G b i) [] V := by
  obtain ⟨r, V2, h1, h2, S', P', h5⟩ := op_shipCount V S P h
  have hN : gN G = 155 := A.2.2.2.2.2.1
  have C := A.1
  refine r_aload_n C dL_law_542 rfl ?_
  refine q_callV (kk0 := 0) (As := []) (rest := []) C A.2.2.2.1 dL_law_543 lL_185 w5_shipCount (rc_main (by omega)) (ev5_shipCount C.lt (by omega) h1) rfl rfl (Nat.le_of_ble_eq_true rfl) (Nat.le_of_ble_eq_true rfl) (Nat.le_of_ble_eq_true rfl) (show cells ≤ 601024 by omega) (show slots ≤ 7293034 by omega) ?_
  show At G X cells slots 546 (LV G b i) [vI r] V
  refine r_aload_n C dL_law_546 rfl ?_
  refine q_callV (kk0 := 148) (As := []) (rest := [vI r]) C A.2.2.2.1 dL_law_547 lL_188 w6_shipCount (rc_model (by omega)) (ev6_shipCount C.lt (by omega) h2) rfl rfl (Nat.le_of_ble_eq_true rfl) (Nat.le_of_ble_eq_true rfl) (Nat.le_of_ble_eq_true rfl) (show cells ≤ 601024 by omega) (show slots ≤ 7293034 by omega) ?_
  show At G X cells slots 550 (LV G b i) [vI r, vI r] V2
  refine x_icmpeq (tgt := 3481) C dL_law_550 rfl (fun _ => ?_) (fun c => absurd rfl c)
  exact K.self V2 S' P' _ _ h5 (by omega) (by omega)
theorem lc_headway {G : GT} {X : CT} {cells slots b L : Nat} {xs : Nat → Int32} {i : Int} {V : VV} {S : Su} {P : Pl} (A : LA G X b L xs) (hi : 0 ≤ i) (hi2 : i + 6 ≤ (L : Int)) (h : RV V S P) (hc : cells + 10 ≤ 601024) (hs : slots + 60 ≤ 7293034) (K : Nx G X b i cells slots) : At G X cells slots 555 (LV G b i) [] V := by
  obtain ⟨r, V2, h1, h2, S', P', h5⟩ := op_headway V S P h
  have hN : gN G = 155 := A.2.2.2.2.2.1
  have C := A.1
  refine r_aload_n C dL_law_555 rfl ?_
  refine q_callV (kk0 := 0) (As := []) (rest := []) C A.2.2.2.1 dL_law_556 lL_189 w5_headway (rc_main (by omega)) (ev5_headway C.lt (by omega) h1) rfl rfl (Nat.le_of_ble_eq_true rfl) (Nat.le_of_ble_eq_true rfl) (Nat.le_of_ble_eq_true rfl) (show cells ≤ 601024 by omega) (show slots ≤ 7293034 by omega) ?_
  show At G X cells slots 559 (LV G b i) [vI r] V
  refine r_aload_n C dL_law_559 rfl ?_
  refine q_callV (kk0 := 148) (As := []) (rest := [vI r]) C A.2.2.2.1 dL_law_560 lL_192 w6_headway (rc_model (by omega)) (ev6_headway C.lt (by omega) h2) rfl rfl (Nat.le_of_ble_eq_true rfl) (Nat.le_of_ble_eq_true rfl) (Nat.le_of_ble_eq_true rfl) (show cells ≤ 601024 by omega) (show slots ≤ 7293034 by omega) ?_
  show At G X cells slots 563 (LV G b i) [vI r, vI r] V2
  refine x_icmpeq (tgt := 3481) C dL_law_563 rfl (fun _ => ?_) (fun c => absurd rfl c)
  exact K.self V2 S' P' _ _ h5 (by omega) (by omega)
theorem lc_clearance {G : GT} {X : CT} {cells slots b L : Nat} {xs : Nat → Int32} {i : Int} {V : VV} {S : Su} {P : Pl} (A : LA G X b L xs) (hi : 0 ≤ i) (hi2 : i + 6 ≤ (L : Int)) (h : RV V S P) (hc : cells + 10 ≤ 601024) (hs : slots + 60 ≤ 7293034) (K : Nx G X b i cells slots) : At G X cells slots 568 (LV G b i) [] V := by
  obtain ⟨r, V2, h1, h2, S', P', h5⟩ := op_clearance V S P h
  have hN : gN G = 155 := A.2.2.2.2.2.1
  have C := A.1
  refine r_aload_n C dL_law_568 rfl ?_
  refine q_callV (kk0 := 0) (As := []) (rest := []) C A.2.2.2.1 dL_law_569 lL_193 w5_clearance (rc_main (by omega)) (ev5_clearance C.lt (by omega) h1) rfl rfl (Nat.le_of_ble_eq_true rfl) (Nat.le_of_ble_eq_true rfl) (Nat.le_of_ble_eq_true rfl) (show cells ≤ 601024 by omega) (show slots ≤ 7293034 by omega) ?_
  show At G X cells slots 572 (LV G b i) [vI r] V
  refine r_aload_n C dL_law_572 rfl ?_
  refine q_callV (kk0 := 148) (As := []) (rest := [vI r]) C A.2.2.2.1 dL_law_573 lL_196 w6_clearance (rc_model (by omega)) (ev6_clearance C.lt (by omega) h2) rfl rfl (Nat.le_of_ble_eq_true rfl) (Nat.le_of_ble_eq_true rfl) (Nat.le_of_ble_eq_true rfl) (show cells ≤ 601024 by omega) (show slots ≤ 7293034 by omega) ?_
  show At G X cells slots 576 (LV G b i) [vI r, vI r] V2
  refine x_icmpeq (tgt := 3481) C dL_law_576 rfl (fun _ => ?_) (fun c => absurd rfl c)
  exact K.self V2 S' P' _ _ h5 (by omega) (by omega)
theorem lc_thickness {G : GT} {X : CT} {cells slots b L : Nat} {xs : Nat → Int32} {i : Int} {V : VV} {S : Su} {P : Pl} (A : LA G X b L xs) (hi : 0 ≤ i) (hi2 : i + 6 ≤ (L : Int)) (h : RV V S P) (hc : cells + 10 ≤ 601024) (hs : slots + 60 ≤ 7293034) (K : Nx G X b i cells slots) : At G X cells slots 581 (LV G b i) [] V := by
  obtain ⟨r, V2, h1, h2, S', P', h5⟩ := op_thickness V S P h
  have hN : gN G = 155 := A.2.2.2.2.2.1
  have C := A.1
  refine r_aload_n C dL_law_581 rfl ?_
  refine q_callV (kk0 := 0) (As := []) (rest := []) C A.2.2.2.1 dL_law_582 lL_197 w5_thickness (rc_main (by omega)) (ev5_thickness C.lt (by omega) h1) rfl rfl (Nat.le_of_ble_eq_true rfl) (Nat.le_of_ble_eq_true rfl) (Nat.le_of_ble_eq_true rfl) (show cells ≤ 601024 by omega) (show slots ≤ 7293034 by omega) ?_
  show At G X cells slots 585 (LV G b i) [vI r] V
  refine r_aload_n C dL_law_585 rfl ?_
  refine q_callV (kk0 := 148) (As := []) (rest := [vI r]) C A.2.2.2.1 dL_law_586 lL_200 w6_thickness (rc_model (by omega)) (ev6_thickness C.lt (by omega) h2) rfl rfl (Nat.le_of_ble_eq_true rfl) (Nat.le_of_ble_eq_true rfl) (Nat.le_of_ble_eq_true rfl) (show cells ≤ 601024 by omega) (show slots ≤ 7293034 by omega) ?_
  show At G X cells slots 589 (LV G b i) [vI r, vI r] V2
  refine x_icmpeq (tgt := 3481) C dL_law_589 rfl (fun _ => ?_) (fun c => absurd rfl c)
  exact K.self V2 S' P' _ _ h5 (by omega) (by omega)
theorem lc_minute {G : GT} {X : CT} {cells slots b L : Nat} {xs : Nat → Int32} {i : Int} {V : VV} {S : Su} {P : Pl} (A : LA G X b L xs) (hi : 0 ≤ i) (hi2 : i + 6 ≤ (L : Int)) (h : RV V S P) (hc : cells + 10 ≤ 601024) (hs : slots + 60 ≤ 7293034) (K : Nx G X b i cells slots) : At G X cells slots 594 (LV G b i) [] V := by
  obtain ⟨r, V2, h1, h2, S', P', h5⟩ := op_minute V S P h
  have hN : gN G = 155 := A.2.2.2.2.2.1
  have C := A.1
  refine r_aload_n C dL_law_594 rfl ?_
  refine q_callV (kk0 := 0) (As := []) (rest := []) C A.2.2.2.1 dL_law_595 lL_201 w5_minute (rc_main (by omega)) (ev5_minute C.lt (by omega) h1) rfl rfl (Nat.le_of_ble_eq_true rfl) (Nat.le_of_ble_eq_true rfl) (Nat.le_of_ble_eq_true rfl) (show cells ≤ 601024 by omega) (show slots ≤ 7293034 by omega) ?_
  show At G X cells slots 598 (LV G b i) [vI r] V
  refine r_aload_n C dL_law_598 rfl ?_
  refine q_callV (kk0 := 148) (As := []) (rest := [vI r]) C A.2.2.2.1 dL_law_599 lL_204 w6_minute (rc_model (by omega)) (ev6_minute C.lt (by omega) h2) rfl rfl (Nat.le_of_ble_eq_true rfl) (Nat.le_of_ble_eq_true rfl) (Nat.le_of_ble_eq_true rfl) (show cells ≤ 601024 by omega) (show slots ≤ 7293034 by omega) ?_
  show At G X cells slots 602 (LV G b i) [vI r, vI r] V2
  refine x_icmpeq (tgt := 3481) C dL_law_602 rfl (fun _ => ?_) (fun c => absurd rfl c)
  exact K.self V2 S' P' _ _ h5 (by omega) (by omega)
theorem lc_transitTime {G : GT} {X : CT} {cells slots b L : Nat} {xs : Nat → Int32} {i : Int} {V : VV} {S : Su} {P : Pl} (A : LA G X b L xs) (hi : 0 ≤ i) (hi2 : i + 6 ≤ (L : Int)) (h : RV V S P) (hc : cells + 10 ≤ 601024) (hs : slots + 60 ≤ 7293034) (K : Nx G X b i cells slots) : At G X cells slots 607 (LV G b i) [] V := by
  obtain ⟨e, V1, bb, V2, h1, h2, h3, h4, S', P', h5⟩ := op_transitTime (sv_rg (xs := xs) (k := i + 1)) V S P h
  have hN : gN G = 155 := A.2.2.2.2.2.1
  have C := A.1
  refine r_aload_n C dL_law_607 rfl ?_
  refine ld_arg A dL_law_608 dL_law_609 dL_law_611 dL_law_612 dL_law_613 rfl rfl (by omega) (by omega) ?_
  refine r_aload_n C dL_law_614 rfl ?_
  refine q_callW (n := 3) (As := [.ref (gB G + 0), vI (sv xs (i + 1)), .ref (gB G + 154)]) (rest := []) C A.2.2.1 A.2.2.2.1 dL_law_615 lL_205 whL_transitTime wiL (by decide +kernel) (by decide +kernel) (ew_transitTime C.lt hN A.2.2.2.2.2.2.1 h1) rfl rfl (Nat.le_of_ble_eq_true rfl) (Nat.le_of_ble_eq_true rfl) (Nat.le_of_ble_eq_true rfl) (show cells + 1 ≤ 601024 by omega) (show slots + 6 ≤ 7293034 by omega) ?_
  obtain ⟨z, hz, hz2⟩ := oGI_ex (G := G) (e := e)
  rw [hz]
  refine AtH.gO (z := z) ?_
  have A2 := A.gO (z := z)
  have C2 := A2.1
  show At (gO G z) X (cells + 1) (slots + 6) 618 (LV (gO G z) b i) [vI (cod [eI] e)] V1
  refine x_istore A2.2.2.2.2.1 C2 dL_law_618 rfl ?_
  refine r_aload_n C2 dL_law_620 rfl ?_
  refine ld_arg A2 dL_law_621 dL_law_622 dL_law_624 dL_law_625 dL_law_626 rfl rfl (by omega) (by omega) ?_
  refine q_callV (kk0 := 148) (As := [vI (sv xs (i + 1))]) (rest := []) C2 A2.2.2.2.1 dL_law_627 lL_207 w6_transitTime (rc_model (show 154 ≤ gN G by omega)) (ev6_transitTime C2.lt (show 154 ≤ gN G by omega) h2) rfl rfl (Nat.le_of_ble_eq_true rfl) (Nat.le_of_ble_eq_true rfl) (Nat.le_of_ble_eq_true rfl) (show cells + 1 ≤ 601024 by omega) (show slots + 6 ≤ 7293034 by omega) ?_
  show At (gO G z) X (cells + 1) (slots + 6) 630 ((5, vI (cod [eI] e)) :: LV (gO G z) b i) [vI bb] V2
  refine x_istore A2.2.2.2.2.1 C2 dL_law_630 rfl ?_
  refine tl_I A2 h3 cod_rg (fun c => ?_) (by omega) (by omega) dL_law_632 dL_law_633 dL_law_636 dL_law_638 dL_law_643 dL_law_645 dL_law_648 dL_law_649 dL_law_650 dL_law_651 dL_law_653 dL_law_654 dL_law_655 dL_law_660 rfl (K.gO V2 S' P' _ _ h5 (by omega) (by omega))
  obtain ⟨r, hr⟩ := cod_e c
  have e1 := hz2 r hr
  have e2 := h4 r hr
  rw [gO_6 (by rw [e1]; exact (rg_nrm r).1), e1, e2]
theorem lc_iceClass {G : GT} {X : CT} {cells slots b L : Nat} {xs : Nat → Int32} {i : Int} {V : VV} {S : Su} {P : Pl} (A : LA G X b L xs) (hi : 0 ≤ i) (hi2 : i + 6 ≤ (L : Int)) (h : RV V S P) (hc : cells + 10 ≤ 601024) (hs : slots + 60 ≤ 7293034) (K : Nx G X b i cells slots) : At G X cells slots 663 (LV G b i) [] V := by
  obtain ⟨e, V1, bb, V2, h1, h2, h3, h4, S', P', h5⟩ := op_iceClass (sv_rg (xs := xs) (k := i + 1)) V S P h
  have hN : gN G = 155 := A.2.2.2.2.2.1
  have C := A.1
  refine r_aload_n C dL_law_663 rfl ?_
  refine ld_arg A dL_law_664 dL_law_665 dL_law_667 dL_law_668 dL_law_669 rfl rfl (by omega) (by omega) ?_
  refine r_aload_n C dL_law_670 rfl ?_
  refine q_callW (n := 3) (As := [.ref (gB G + 0), vI (sv xs (i + 1)), .ref (gB G + 154)]) (rest := []) C A.2.2.1 A.2.2.2.1 dL_law_671 lL_208 whL_iceClass wiL (by decide +kernel) (by decide +kernel) (ew_iceClass C.lt hN A.2.2.2.2.2.2.1 h1) rfl rfl (Nat.le_of_ble_eq_true rfl) (Nat.le_of_ble_eq_true rfl) (Nat.le_of_ble_eq_true rfl) (show cells + 1 ≤ 601024 by omega) (show slots + 6 ≤ 7293034 by omega) ?_
  obtain ⟨z, hz, hz2⟩ := oGI_ex (G := G) (e := e)
  rw [hz]
  refine AtH.gO (z := z) ?_
  have A2 := A.gO (z := z)
  have C2 := A2.1
  show At (gO G z) X (cells + 1) (slots + 6) 674 (LV (gO G z) b i) [vI (cod [eI] e)] V1
  refine x_istore A2.2.2.2.2.1 C2 dL_law_674 rfl ?_
  refine r_aload_n C2 dL_law_676 rfl ?_
  refine ld_arg A2 dL_law_677 dL_law_678 dL_law_680 dL_law_681 dL_law_682 rfl rfl (by omega) (by omega) ?_
  refine q_callV (kk0 := 148) (As := [vI (sv xs (i + 1))]) (rest := []) C2 A2.2.2.2.1 dL_law_683 lL_210 w6_iceClass (rc_model (show 154 ≤ gN G by omega)) (ev6_iceClass C2.lt (show 154 ≤ gN G by omega) h2) rfl rfl (Nat.le_of_ble_eq_true rfl) (Nat.le_of_ble_eq_true rfl) (Nat.le_of_ble_eq_true rfl) (show cells + 1 ≤ 601024 by omega) (show slots + 6 ≤ 7293034 by omega) ?_
  show At (gO G z) X (cells + 1) (slots + 6) 686 ((5, vI (cod [eI] e)) :: LV (gO G z) b i) [vI bb] V2
  refine x_istore A2.2.2.2.2.1 C2 dL_law_686 rfl ?_
  refine tl_I A2 h3 cod_rg (fun c => ?_) (by omega) (by omega) dL_law_688 dL_law_689 dL_law_692 dL_law_694 dL_law_699 dL_law_701 dL_law_704 dL_law_705 dL_law_706 dL_law_707 dL_law_709 dL_law_710 dL_law_711 dL_law_716 rfl (K.gO V2 S' P' _ _ h5 (by omega) (by omega))
  obtain ⟨r, hr⟩ := cod_e c
  have e1 := hz2 r hr
  have e2 := h4 r hr
  rw [gO_6 (by rw [e1]; exact (rg_nrm r).1), e1, e2]
theorem lc_weight {G : GT} {X : CT} {cells slots b L : Nat} {xs : Nat → Int32} {i : Int} {V : VV} {S : Su} {P : Pl} (A : LA G X b L xs) (hi : 0 ≤ i) (hi2 : i + 6 ≤ (L : Int)) (h : RV V S P) (hc : cells + 10 ≤ 601024) (hs : slots + 60 ≤ 7293034) (K : Nx G X b i cells slots) : At G X cells slots 719 (LV G b i) [] V := by
  obtain ⟨e, V1, bb, V2, h1, h2, h3, h4, S', P', h5⟩ := op_weight (sv_rg (xs := xs) (k := i + 1)) V S P h
  have hN : gN G = 155 := A.2.2.2.2.2.1
  have C := A.1
  refine r_aload_n C dL_law_719 rfl ?_
  refine ld_arg A dL_law_720 dL_law_721 dL_law_723 dL_law_724 dL_law_725 rfl rfl (by omega) (by omega) ?_
  refine r_aload_n C dL_law_726 rfl ?_
  refine q_callW (n := 3) (As := [.ref (gB G + 0), vI (sv xs (i + 1)), .ref (gB G + 154)]) (rest := []) C A.2.2.1 A.2.2.2.1 dL_law_727 lL_211 whL_weight wiL (by decide +kernel) (by decide +kernel) (ew_weight C.lt hN A.2.2.2.2.2.2.1 h1) rfl rfl (Nat.le_of_ble_eq_true rfl) (Nat.le_of_ble_eq_true rfl) (Nat.le_of_ble_eq_true rfl) (show cells + 1 ≤ 601024 by omega) (show slots + 6 ≤ 7293034 by omega) ?_
  obtain ⟨z, hz, hz2⟩ := oGI_ex (G := G) (e := e)
  rw [hz]
  refine AtH.gO (z := z) ?_
  have A2 := A.gO (z := z)
  have C2 := A2.1
  show At (gO G z) X (cells + 1) (slots + 6) 730 (LV (gO G z) b i) [vI (cod [eI] e)] V1
  refine x_istore A2.2.2.2.2.1 C2 dL_law_730 rfl ?_
  refine r_aload_n C2 dL_law_732 rfl ?_
  refine ld_arg A2 dL_law_733 dL_law_734 dL_law_736 dL_law_737 dL_law_738 rfl rfl (by omega) (by omega) ?_
  refine q_callV (kk0 := 148) (As := [vI (sv xs (i + 1))]) (rest := []) C2 A2.2.2.2.1 dL_law_739 lL_213 w6_weight (rc_model (show 154 ≤ gN G by omega)) (ev6_weight C2.lt (show 154 ≤ gN G by omega) h2) rfl rfl (Nat.le_of_ble_eq_true rfl) (Nat.le_of_ble_eq_true rfl) (Nat.le_of_ble_eq_true rfl) (show cells + 1 ≤ 601024 by omega) (show slots + 6 ≤ 7293034 by omega) ?_
  show At (gO G z) X (cells + 1) (slots + 6) 742 ((5, vI (cod [eI] e)) :: LV (gO G z) b i) [vI bb] V2
  refine x_istore A2.2.2.2.2.1 C2 dL_law_742 rfl ?_
  refine tl_I A2 h3 cod_rg (fun c => ?_) (by omega) (by omega) dL_law_744 dL_law_745 dL_law_748 dL_law_750 dL_law_755 dL_law_757 dL_law_760 dL_law_761 dL_law_762 dL_law_763 dL_law_765 dL_law_766 dL_law_767 dL_law_772 rfl (K.gO V2 S' P' _ _ h5 (by omega) (by omega))
  obtain ⟨r, hr⟩ := cod_e c
  have e1 := hz2 r hr
  have e2 := h4 r hr
  rw [gO_6 (by rw [e1]; exact (rg_nrm r).1), e1, e2]
theorem lc_shipNameByte {G : GT} {X : CT} {cells slots b L : Nat} {xs : Nat → Int32} {i : Int} {V : VV} {S : Su} {P : Pl} (A : LA G X b L xs) (hi : 0 ≤ i) (hi2 : i + 6 ≤ (L : Int)) (h : RV V S P) (hc : cells + 10 ≤ 601024) (hs : slots + 60 ≤ 7293034) (K : Nx G X b i cells slots) : At G X cells slots 775 (LV G b i) [] V := by
  obtain ⟨e, V1, bb, V2, h1, h2, h3, h4, S', P', h5⟩ := op_shipNameByte (sv_rg (xs := xs) (k := i + 1)) (sv_rg (xs := xs) (k := i + 2)) V S P h
  have hN : gN G = 155 := A.2.2.2.2.2.1
  have C := A.1
  refine r_aload_n C dL_law_775 rfl ?_
  refine ld_arg A dL_law_776 dL_law_777 dL_law_779 dL_law_780 dL_law_781 rfl rfl (by omega) (by omega) ?_
  refine ld_arg A dL_law_782 dL_law_783 dL_law_785 dL_law_786 dL_law_787 rfl rfl (by omega) (by omega) ?_
  refine r_aload_n C dL_law_788 rfl ?_
  refine q_callW (n := 4) (As := [.ref (gB G + 0), vI (sv xs (i + 1)), vI (sv xs (i + 2)), .ref (gB G + 154)]) (rest := []) C A.2.2.1 A.2.2.2.1 dL_law_789 lL_214 whL_shipNameByte wiL (by decide +kernel) (by decide +kernel) (ew_shipNameByte C.lt hN A.2.2.2.2.2.2.1 h1) rfl rfl (Nat.le_of_ble_eq_true rfl) (Nat.le_of_ble_eq_true rfl) (Nat.le_of_ble_eq_true rfl) (show cells + 2 ≤ 601024 by omega) (show slots + 12 ≤ 7293034 by omega) ?_
  obtain ⟨z, hz, hz2⟩ := oGI_ex (G := G) (e := e)
  rw [hz]
  refine AtH.gO (z := z) ?_
  have A2 := A.gO (z := z)
  have C2 := A2.1
  show At (gO G z) X (cells + 2) (slots + 12) 792 (LV (gO G z) b i) [vI (cod [eI] e)] V1
  refine x_istore A2.2.2.2.2.1 C2 dL_law_792 rfl ?_
  refine r_aload_n C2 dL_law_794 rfl ?_
  refine ld_arg A2 dL_law_795 dL_law_796 dL_law_798 dL_law_799 dL_law_800 rfl rfl (by omega) (by omega) ?_
  refine ld_arg A2 dL_law_801 dL_law_802 dL_law_804 dL_law_805 dL_law_806 rfl rfl (by omega) (by omega) ?_
  refine q_callV (kk0 := 148) (As := [vI (sv xs (i + 1)), vI (sv xs (i + 2))]) (rest := []) C2 A2.2.2.2.1 dL_law_807 lL_217 w6_shipNameByte (rc_model (show 154 ≤ gN G by omega)) (ev6_shipNameByte C2.lt (show 154 ≤ gN G by omega) h2) rfl rfl (Nat.le_of_ble_eq_true rfl) (Nat.le_of_ble_eq_true rfl) (Nat.le_of_ble_eq_true rfl) (show cells + 2 ≤ 601024 by omega) (show slots + 12 ≤ 7293034 by omega) ?_
  show At (gO G z) X (cells + 2) (slots + 12) 810 ((5, vI (cod [eI] e)) :: LV (gO G z) b i) [vI bb] V2
  refine x_istore A2.2.2.2.2.1 C2 dL_law_810 rfl ?_
  refine tl_I A2 h3 cod_rg (fun c => ?_) (by omega) (by omega) dL_law_812 dL_law_813 dL_law_816 dL_law_818 dL_law_823 dL_law_825 dL_law_828 dL_law_829 dL_law_830 dL_law_831 dL_law_833 dL_law_834 dL_law_835 dL_law_840 rfl (K.gO V2 S' P' _ _ h5 (by omega) (by omega))
  obtain ⟨r, hr⟩ := cod_e c
  have e1 := hz2 r hr
  have e2 := h4 r hr
  rw [gO_6 (by rw [e1]; exact (rg_nrm r).1), e1, e2]
theorem lc_findShip {G : GT} {X : CT} {cells slots b L : Nat} {xs : Nat → Int32} {i : Int} {V : VV} {S : Su} {P : Pl} (A : LA G X b L xs) (hi : 0 ≤ i) (hi2 : i + 6 ≤ (L : Int)) (h : RV V S P) (hc : cells + 10 ≤ 601024) (hs : slots + 60 ≤ 7293034) (K : Nx G X b i cells slots) : At G X cells slots 843 (LV G b i) [] V := by
  obtain ⟨e, V1, bb, V2, h1, h2, h3, h4, S', P', h5⟩ := op_findShip  V S P h
  have hN : gN G = 155 := A.2.2.2.2.2.1
  have C := A.1
  refine r_aload_n C dL_law_843 rfl ?_
  refine r_aload_n C dL_law_844 rfl ?_
  refine q_callW (n := 2) (As := [.ref (gB G + 0), .ref (gB G + 154)]) (rest := []) C A.2.2.1 A.2.2.2.1 dL_law_845 lL_218 whL_findShip wiL (by decide +kernel) (by decide +kernel) (ew_findShip C.lt hN A.2.2.2.2.2.2.1 h1) rfl rfl (Nat.le_of_ble_eq_true rfl) (Nat.le_of_ble_eq_true rfl) (Nat.le_of_ble_eq_true rfl) (show cells + 1 ≤ 601024 by omega) (show slots + 6 ≤ 7293034 by omega) ?_
  obtain ⟨z, hz, hz2⟩ := oGI_ex (G := G) (e := e)
  rw [hz]
  refine AtH.gO (z := z) ?_
  have A2 := A.gO (z := z)
  have C2 := A2.1
  show At (gO G z) X (cells + 1) (slots + 6) 848 (LV (gO G z) b i) [vI (cod [eN] e)] V1
  refine x_istore A2.2.2.2.2.1 C2 dL_law_848 rfl ?_
  refine r_aload_n C2 dL_law_850 rfl ?_
  refine q_callV (kk0 := 148) (As := []) (rest := []) C2 A2.2.2.2.1 dL_law_851 lL_220 w6_findShip (rc_model (show 154 ≤ gN G by omega)) (ev6_findShip C2.lt (show 154 ≤ gN G by omega) h2) rfl rfl (Nat.le_of_ble_eq_true rfl) (Nat.le_of_ble_eq_true rfl) (Nat.le_of_ble_eq_true rfl) (show cells + 1 ≤ 601024 by omega) (show slots + 6 ≤ 7293034 by omega) ?_
  show At (gO G z) X (cells + 1) (slots + 6) 854 ((5, vI (cod [eN] e)) :: LV (gO G z) b i) [vI bb] V2
  refine x_istore A2.2.2.2.2.1 C2 dL_law_854 rfl ?_
  refine tl_I A2 h3 cod_rg (fun c => ?_) (by omega) (by omega) dL_law_856 dL_law_857 dL_law_860 dL_law_862 dL_law_867 dL_law_869 dL_law_872 dL_law_873 dL_law_874 dL_law_875 dL_law_877 dL_law_878 dL_law_879 dL_law_884 rfl (K.gO V2 S' P' _ _ h5 (by omega) (by omega))
  obtain ⟨r, hr⟩ := cod_e c
  have e1 := hz2 r hr
  have e2 := h4 r hr
  rw [gO_6 (by rw [e1]; exact (rg_nrm r).1), e1, e2]
theorem lc_bookingCount {G : GT} {X : CT} {cells slots b L : Nat} {xs : Nat → Int32} {i : Int} {V : VV} {S : Su} {P : Pl} (A : LA G X b L xs) (hi : 0 ≤ i) (hi2 : i + 6 ≤ (L : Int)) (h : RV V S P) (hc : cells + 10 ≤ 601024) (hs : slots + 60 ≤ 7293034) (K : Nx G X b i cells slots) : At G X cells slots 887 (LV G b i) [] V := by
  obtain ⟨r, V2, h1, h2, S', P', h5⟩ := op_bookingCount V S P h
  have hN : gN G = 155 := A.2.2.2.2.2.1
  have C := A.1
  refine r_aload_n C dL_law_887 rfl ?_
  refine q_callV (kk0 := 0) (As := []) (rest := []) C A.2.2.2.1 dL_law_888 lL_221 w5_bookingCount (rc_main (by omega)) (ev5_bookingCount C.lt (by omega) h1) rfl rfl (Nat.le_of_ble_eq_true rfl) (Nat.le_of_ble_eq_true rfl) (Nat.le_of_ble_eq_true rfl) (show cells ≤ 601024 by omega) (show slots ≤ 7293034 by omega) ?_
  show At G X cells slots 891 (LV G b i) [vI r] V
  refine r_aload_n C dL_law_891 rfl ?_
  refine q_callV (kk0 := 148) (As := []) (rest := [vI r]) C A.2.2.2.1 dL_law_892 lL_224 w6_bookingCount (rc_model (by omega)) (ev6_bookingCount C.lt (by omega) h2) rfl rfl (Nat.le_of_ble_eq_true rfl) (Nat.le_of_ble_eq_true rfl) (Nat.le_of_ble_eq_true rfl) (show cells ≤ 601024 by omega) (show slots ≤ 7293034 by omega) ?_
  show At G X cells slots 895 (LV G b i) [vI r, vI r] V2
  refine x_icmpeq (tgt := 3481) C dL_law_895 rfl (fun _ => ?_) (fun c => absurd rfl c)
  exact K.self V2 S' P' _ _ h5 (by omega) (by omega)
