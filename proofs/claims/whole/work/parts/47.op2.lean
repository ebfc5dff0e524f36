set_option maxRecDepth 100000 in
set_option maxHeartbeats 4000000 in
theorem op_learn {p : Program} {l : Launch} {e : Env} {s : State} {m : MethodId} {below : List Frame} {meth : Method} {c : Code} {b L : Nat} {xs : Nat → Int32} {dC : Nat → ClassId} {dI : Nat → Nat → Nat} {cI cJ cZ : ClassId} {h g : Nat → Nat} {o : Nat} {Q : State → Prop} (C : opC p s m c b L xs dC dI cI cJ cZ) {i cells slots : Nat} (hi : i + 5 ≤ L) (hc : cells + 1 ≤ 1062) (hs : slots + 6 ≤ 24739) {σ : BJ} {τ τ' : BM} {f : Nat → Int64} {σ' : BJ} {k : Nat} {z : Option Int64} (h1 : tW l yL_learn wsL_learn σ (fun _ => [.long (jL (xs (i + 1)) (xs (i + 2))), .long (jL (xs (i + 3)) (xs (i + 4)))]) k z σ') (hk : kgTh τ' = k) (hk3 : k ≤ 3) (h2 : wMv l yX1_learn wsX1_learn ({ frames := 4, cells := 0, slots := 0, locals := 95 } : Room) τ [.long (jL (xs (i + 1)) (xs (i + 2))), .long (jL (xs (i + 3)) (xs (i + 4)))] τ') {H : Heap} {locs : List Loc} (hP : va_P (dC, dI) vwCl (wLW cI cJ cZ h g o σ τ f) H) (hD : va_D (fun q : Nat => s.heap.size ≤ q) (wLW cI cJ cZ h g o σ τ f)) (hS : va_S (fun q : Nat => s.heap.size ≤ q) s.heap H locs) {ls : Array Slot} (hl : lv_has ls 8 [(4, .int (nI i)), (3, .ref o), (2, .ref (g 0)), (1, .ref (h 0)), (0, .ref b)]) (kk : ∀ (H1 : Heap) (locs1 : List Loc) (ls1 : Array Slot), va_P (dC, dI) vwCl (wLW cI cJ cZ h g o σ' τ' (ofV z f)) H1 → va_D (fun q : Nat => s.heap.size ≤ q) (wLW cI cJ cZ h g o σ' τ' (ofV z f)) → va_S (fun q : Nat => s.heap.size ≤ q) s.heap H1 locs1 → lv_has ls1 8 [(4, .int (nI i)), (3, .ref o), (2, .ref (g 0)), (1, .ref (h 0)), (0, .ref b)] → W p l e room_1 s m #[Value.ref b] below meth c H1 locs1 (cells + 1) (slots + 6) Q (F0 m 1080 ls1 [])) : W p l e room_1 s m #[Value.ref b] below meth c H locs cells slots Q (F0 m 385 ls []) := by
  obtain ⟨hx, hb, hml, hown, htg, hX, hbl, hK, hH, hN, hL⟩ := C
  have hA : ∀ q : Nat, s.heap.size ≤ q → (fun q : Nat => s.heap.size ≤ q) q := fun _ h => h
  have hbA : ¬ (fun q : Nat => s.heap.size ≤ q) b := Nat.not_le.mpr hbl
  refine lv_aload_n hx hb dL_law_385 rfl (lv_at hl 3 rfl) ?_
  refine lv_aload_n hx hb dL_law_386 rfl (lv_at hl 4 rfl) ?_
  refine lv_iload hx hb dL_law_387 (lv_at hl 0 rfl) ?_
  refine lv_iconst (v := nI 1) hx hb dL_law_389 (by decide) ?_
  refine xr_iadd hx hb dL_law_390 ?_
  refine va_sld (i := nI (i + 1)) hx hb hX hbl hbA hS (nI_in (by omega) (by omega)) dL_law_391 ?_
  rw [show (nI (i + 1)).toNatClampNeg = i + 1 from nI_clamp (by omega)]
  refine lv_i2l (v := (xs (i + 1)).toInt64) hx hb dL_law_392 rfl ?_
  refine lv_bipush (v := nI 32) hx hb dL_law_393 (by decide) ?_
  refine lv_lshl (v := ((xs (i + 1)).toInt64) <<< (((nI 32)).toInt64 &&& 63)) hx hb dL_law_395 rfl ?_
  refine lv_aload_n hx hb dL_law_396 rfl (lv_at hl 4 rfl) ?_
  refine lv_iload hx hb dL_law_397 (lv_at hl 0 rfl) ?_
  refine lv_iconst (v := nI 2) hx hb dL_law_399 (by decide) ?_
  refine xr_iadd hx hb dL_law_400 ?_
  refine va_sld (i := nI (i + 2)) hx hb hX hbl hbA hS (nI_in (by omega) (by omega)) dL_law_401 ?_
  rw [show (nI (i + 2)).toNatClampNeg = i + 2 from nI_clamp (by omega)]
  refine lv_i2l (v := (xs (i + 2)).toInt64) hx hb dL_law_402 rfl ?_
  refine lv_ldc2 hx hb hown (htg _ qL_91) dL_law_403 ?_
  refine lv_land hx hb dL_law_406 ?_
  refine lv_lor hx hb dL_law_407 ?_
  refine lv_aload_n hx hb dL_law_408 rfl (lv_at hl 4 rfl) ?_
  refine lv_iload hx hb dL_law_409 (lv_at hl 0 rfl) ?_
  refine lv_iconst (v := nI 3) hx hb dL_law_411 (by decide) ?_
  refine xr_iadd hx hb dL_law_412 ?_
  refine va_sld (i := nI (i + 3)) hx hb hX hbl hbA hS (nI_in (by omega) (by omega)) dL_law_413 ?_
  rw [show (nI (i + 3)).toNatClampNeg = i + 3 from nI_clamp (by omega)]
  refine lv_i2l (v := (xs (i + 3)).toInt64) hx hb dL_law_414 rfl ?_
  refine lv_bipush (v := nI 32) hx hb dL_law_415 (by decide) ?_
  refine lv_lshl (v := ((xs (i + 3)).toInt64) <<< (((nI 32)).toInt64 &&& 63)) hx hb dL_law_417 rfl ?_
  refine lv_aload_n hx hb dL_law_418 rfl (lv_at hl 4 rfl) ?_
  refine lv_iload hx hb dL_law_419 (lv_at hl 0 rfl) ?_
  refine lv_iconst (v := nI 4) hx hb dL_law_421 (by decide) ?_
  refine xr_iadd hx hb dL_law_422 ?_
  refine va_sld (i := nI (i + 4)) hx hb hX hbl hbA hS (nI_in (by omega) (by omega)) dL_law_423 ?_
  rw [show (nI (i + 4)).toNatClampNeg = i + 4 from nI_clamp (by omega)]
  refine lv_i2l (v := (xs (i + 4)).toInt64) hx hb dL_law_424 rfl ?_
  refine lv_ldc2 hx hb hown (htg _ qL_91) dL_law_425 ?_
  refine lv_land hx hb dL_law_428 ?_
  refine lv_lor hx hb dL_law_429 ?_
  refine lw_tw (As := [.ref (h 0), .long (jL (xs (i + 1)) (xs (i + 2))), .long (jL (xs (i + 3)) (xs (i + 4)))]) (rest := []) (n := 3) ⟨hx, hb, hml, hown, htg⟩ h1 gL_100 rfl (by decide +kernel) (Nat.le_of_ble_eq_true rfl) (Nat.le_of_ble_eq_true rfl) hH hN rfl rfl hK hP hD hS hA hl.1 rfl rfl (Nat.le_of_ble_eq_true rfl) dL_law_430 hc hs (fun H locs hP hD hS => ?_)
  refine lv_istore (lv' := [(5, .int (nI k)), (4, .int (nI i)), (3, .ref o), (2, .ref (g 0)), (1, .ref (h 0)), (0, .ref b)]) hx hb dL_law_433 hl (by decide) rfl (fun ls hl => ?_)
  refine lv_aload_n hx hb dL_law_435 rfl (lv_at hl 3 rfl) ?_
  refine lv_aload_n hx hb dL_law_436 rfl (lv_at hl 5 rfl) ?_
  refine lv_iload hx hb dL_law_437 (lv_at hl 1 rfl) ?_
  refine lv_iconst (v := nI 1) hx hb dL_law_439 (by decide) ?_
  refine xr_iadd hx hb dL_law_440 ?_
  refine va_sld (i := nI (i + 1)) hx hb hX hbl hbA hS (nI_in (by omega) (by omega)) dL_law_441 ?_
  rw [show (nI (i + 1)).toNatClampNeg = i + 1 from nI_clamp (by omega)]
  refine lv_i2l (v := (xs (i + 1)).toInt64) hx hb dL_law_442 rfl ?_
  refine lv_bipush (v := nI 32) hx hb dL_law_443 (by decide) ?_
  refine lv_lshl (v := ((xs (i + 1)).toInt64) <<< (((nI 32)).toInt64 &&& 63)) hx hb dL_law_445 rfl ?_
  refine lv_aload_n hx hb dL_law_446 rfl (lv_at hl 5 rfl) ?_
  refine lv_iload hx hb dL_law_447 (lv_at hl 1 rfl) ?_
  refine lv_iconst (v := nI 2) hx hb dL_law_449 (by decide) ?_
  refine xr_iadd hx hb dL_law_450 ?_
  refine va_sld (i := nI (i + 2)) hx hb hX hbl hbA hS (nI_in (by omega) (by omega)) dL_law_451 ?_
  rw [show (nI (i + 2)).toNatClampNeg = i + 2 from nI_clamp (by omega)]
  refine lv_i2l (v := (xs (i + 2)).toInt64) hx hb dL_law_452 rfl ?_
  refine lv_ldc2 hx hb hown (htg _ qL_91) dL_law_453 ?_
  refine lv_land hx hb dL_law_456 ?_
  refine lv_lor hx hb dL_law_457 ?_
  refine lv_aload_n hx hb dL_law_458 rfl (lv_at hl 5 rfl) ?_
  refine lv_iload hx hb dL_law_459 (lv_at hl 1 rfl) ?_
  refine lv_iconst (v := nI 3) hx hb dL_law_461 (by decide) ?_
  refine xr_iadd hx hb dL_law_462 ?_
  refine va_sld (i := nI (i + 3)) hx hb hX hbl hbA hS (nI_in (by omega) (by omega)) dL_law_463 ?_
  rw [show (nI (i + 3)).toNatClampNeg = i + 3 from nI_clamp (by omega)]
  refine lv_i2l (v := (xs (i + 3)).toInt64) hx hb dL_law_464 rfl ?_
  refine lv_bipush (v := nI 32) hx hb dL_law_465 (by decide) ?_
  refine lv_lshl (v := ((xs (i + 3)).toInt64) <<< (((nI 32)).toInt64 &&& 63)) hx hb dL_law_467 rfl ?_
  refine lv_aload_n hx hb dL_law_468 rfl (lv_at hl 5 rfl) ?_
  refine lv_iload hx hb dL_law_469 (lv_at hl 1 rfl) ?_
  refine lv_iconst (v := nI 4) hx hb dL_law_471 (by decide) ?_
  refine xr_iadd hx hb dL_law_472 ?_
  refine va_sld (i := nI (i + 4)) hx hb hX hbl hbA hS (nI_in (by omega) (by omega)) dL_law_473 ?_
  rw [show (nI (i + 4)).toNatClampNeg = i + 4 from nI_clamp (by omega)]
  refine lv_i2l (v := (xs (i + 4)).toInt64) hx hb dL_law_474 rfl ?_
  refine lv_ldc2 hx hb hown (htg _ qL_91) dL_law_475 ?_
  refine lv_land hx hb dL_law_478 ?_
  refine lv_lor hx hb dL_law_479 ?_
  refine lwm_wv (As := [.long (jL (xs (i + 1)) (xs (i + 2))), .long (jL (xs (i + 3)) (xs (i + 4)))]) (rest := []) (n := 2) ⟨hx, hb, hml, hown, htg⟩ h2 (cwV 2 htg gL_103 rfl rfl rfl (by decide +kernel) ⟨Nat.le_of_ble_eq_true rfl, Nat.le_of_ble_eq_true rfl⟩) hK hP hD hS hA hl.1 rfl rfl (Nat.le_of_ble_eq_true rfl) dL_law_480 hc hs (fun H locs hP hD hS => ?_)
  refine lv_aload_n hx hb dL_law_483 rfl (lv_at hl 3 rfl) ?_
  refine lwm_ri (As := []) (rest := []) (n := 0) ⟨hx, hb, hml, hown, htg⟩ (m_thrown l τ') (cwV 0 htg gL_75 rfl rfl rfl (by decide +kernel) ⟨Nat.le_of_ble_eq_true rfl, Nat.le_of_ble_eq_true rfl⟩) hK hP hD hS hA hl.1 rfl rfl (Nat.le_of_ble_eq_true rfl) dL_law_484 hc hs (fun H locs hP hD hS => ?_)
  rw [hk]
  refine lv_iload hx hb dL_law_487 (lv_at hl 0 rfl) ?_
  refine xr_icmp_eq (tgt := 494) hx hb dL_law_489 (by decide) (by omega) (by omega) (fun c489 => ?_) (fun c489 => absurd c489 (by exact not_not_intro rfl))
  refine lv_goto (tgt := 1080) hx hb dL_law_494 (by decide) ?_
  exact kk _ _ ls hP hD hS (lv_sub hl [1, 2, 3, 4, 5] rfl)
set_option maxRecDepth 100000 in
set_option maxHeartbeats 4000000 in
theorem op_pin {p : Program} {l : Launch} {e : Env} {s : State} {m : MethodId} {below : List Frame} {meth : Method} {c : Code} {b L : Nat} {xs : Nat → Int32} {dC : Nat → ClassId} {dI : Nat → Nat → Nat} {cI cJ cZ : ClassId} {h g : Nat → Nat} {o : Nat} {Q : State → Prop} (C : opC p s m c b L xs dC dI cI cJ cZ) {i cells slots : Nat} (hi : i + 5 ≤ L) (hc : cells + 1 ≤ 1062) (hs : slots + 6 ≤ 24739) {σ : BJ} {τ τ' : BM} {f : Nat → Int64} {σ' : BJ} {k : Nat} {z : Option Int64} (h1 : tW l yL_pin wsL_pin σ (fun _ => [.int (xs (i + 1)), .long (jL (xs (i + 2)) (xs (i + 3)))]) k z σ') (hk : kgTh τ' = k) (hk3 : k ≤ 3) (h2 : wMv l yX1_pin wsX1_pin ({ frames := 0, cells := 0, slots := 0, locals := 0 } : Room) τ [.int (xs (i + 1)), .long (jL (xs (i + 2)) (xs (i + 3)))] τ') {H : Heap} {locs : List Loc} (hP : va_P (dC, dI) vwCl (wLW cI cJ cZ h g o σ τ f) H) (hD : va_D (fun q : Nat => s.heap.size ≤ q) (wLW cI cJ cZ h g o σ τ f)) (hS : va_S (fun q : Nat => s.heap.size ≤ q) s.heap H locs) {ls : Array Slot} (hl : lv_has ls 8 [(4, .int (nI i)), (3, .ref o), (2, .ref (g 0)), (1, .ref (h 0)), (0, .ref b)]) (kk : ∀ (H1 : Heap) (locs1 : List Loc) (ls1 : Array Slot), va_P (dC, dI) vwCl (wLW cI cJ cZ h g o σ' τ' (ofV z f)) H1 → va_D (fun q : Nat => s.heap.size ≤ q) (wLW cI cJ cZ h g o σ' τ' (ofV z f)) → va_S (fun q : Nat => s.heap.size ≤ q) s.heap H1 locs1 → lv_has ls1 8 [(4, .int (nI i)), (3, .ref o), (2, .ref (g 0)), (1, .ref (h 0)), (0, .ref b)] → W p l e room_1 s m #[Value.ref b] below meth c H1 locs1 (cells + 1) (slots + 6) Q (F0 m 1080 ls1 [])) : W p l e room_1 s m #[Value.ref b] below meth c H locs cells slots Q (F0 m 497 ls []) := by
  obtain ⟨hx, hb, hml, hown, htg, hX, hbl, hK, hH, hN, hL⟩ := C
  have hA : ∀ q : Nat, s.heap.size ≤ q → (fun q : Nat => s.heap.size ≤ q) q := fun _ h => h
  have hbA : ¬ (fun q : Nat => s.heap.size ≤ q) b := Nat.not_le.mpr hbl
  refine lv_aload_n hx hb dL_law_497 rfl (lv_at hl 3 rfl) ?_
  refine lv_aload_n hx hb dL_law_498 rfl (lv_at hl 4 rfl) ?_
  refine lv_iload hx hb dL_law_499 (lv_at hl 0 rfl) ?_
  refine lv_iconst (v := nI 1) hx hb dL_law_501 (by decide) ?_
  refine xr_iadd hx hb dL_law_502 ?_
  refine va_sld (i := nI (i + 1)) hx hb hX hbl hbA hS (nI_in (by omega) (by omega)) dL_law_503 ?_
  rw [show (nI (i + 1)).toNatClampNeg = i + 1 from nI_clamp (by omega)]
  refine lv_aload_n hx hb dL_law_504 rfl (lv_at hl 4 rfl) ?_
  refine lv_iload hx hb dL_law_505 (lv_at hl 0 rfl) ?_
  refine lv_iconst (v := nI 2) hx hb dL_law_507 (by decide) ?_
  refine xr_iadd hx hb dL_law_508 ?_
  refine va_sld (i := nI (i + 2)) hx hb hX hbl hbA hS (nI_in (by omega) (by omega)) dL_law_509 ?_
  rw [show (nI (i + 2)).toNatClampNeg = i + 2 from nI_clamp (by omega)]
  refine lv_i2l (v := (xs (i + 2)).toInt64) hx hb dL_law_510 rfl ?_
  refine lv_bipush (v := nI 32) hx hb dL_law_511 (by decide) ?_
  refine lv_lshl (v := ((xs (i + 2)).toInt64) <<< (((nI 32)).toInt64 &&& 63)) hx hb dL_law_513 rfl ?_
  refine lv_aload_n hx hb dL_law_514 rfl (lv_at hl 4 rfl) ?_
  refine lv_iload hx hb dL_law_515 (lv_at hl 0 rfl) ?_
  refine lv_iconst (v := nI 3) hx hb dL_law_517 (by decide) ?_
  refine xr_iadd hx hb dL_law_518 ?_
  refine va_sld (i := nI (i + 3)) hx hb hX hbl hbA hS (nI_in (by omega) (by omega)) dL_law_519 ?_
  rw [show (nI (i + 3)).toNatClampNeg = i + 3 from nI_clamp (by omega)]
  refine lv_i2l (v := (xs (i + 3)).toInt64) hx hb dL_law_520 rfl ?_
  refine lv_ldc2 hx hb hown (htg _ qL_91) dL_law_521 ?_
  refine lv_land hx hb dL_law_524 ?_
  refine lv_lor hx hb dL_law_525 ?_
  refine lw_tw (As := [.ref (h 0), .int (xs (i + 1)), .long (jL (xs (i + 2)) (xs (i + 3)))]) (rest := []) (n := 3) ⟨hx, hb, hml, hown, htg⟩ h1 gL_104 rfl (by decide +kernel) (Nat.le_of_ble_eq_true rfl) (Nat.le_of_ble_eq_true rfl) hH hN rfl rfl hK hP hD hS hA hl.1 rfl rfl (Nat.le_of_ble_eq_true rfl) dL_law_526 hc hs (fun H locs hP hD hS => ?_)
  refine lv_istore (lv' := [(5, .int (nI k)), (4, .int (nI i)), (3, .ref o), (2, .ref (g 0)), (1, .ref (h 0)), (0, .ref b)]) hx hb dL_law_529 hl (by decide) rfl (fun ls hl => ?_)
  refine lv_aload_n hx hb dL_law_531 rfl (lv_at hl 3 rfl) ?_
  refine lv_aload_n hx hb dL_law_532 rfl (lv_at hl 5 rfl) ?_
  refine lv_iload hx hb dL_law_533 (lv_at hl 1 rfl) ?_
  refine lv_iconst (v := nI 1) hx hb dL_law_535 (by decide) ?_
  refine xr_iadd hx hb dL_law_536 ?_
  refine va_sld (i := nI (i + 1)) hx hb hX hbl hbA hS (nI_in (by omega) (by omega)) dL_law_537 ?_
  rw [show (nI (i + 1)).toNatClampNeg = i + 1 from nI_clamp (by omega)]
  refine lv_aload_n hx hb dL_law_538 rfl (lv_at hl 5 rfl) ?_
  refine lv_iload hx hb dL_law_539 (lv_at hl 1 rfl) ?_
  refine lv_iconst (v := nI 2) hx hb dL_law_541 (by decide) ?_
  refine xr_iadd hx hb dL_law_542 ?_
  refine va_sld (i := nI (i + 2)) hx hb hX hbl hbA hS (nI_in (by omega) (by omega)) dL_law_543 ?_
  rw [show (nI (i + 2)).toNatClampNeg = i + 2 from nI_clamp (by omega)]
  refine lv_i2l (v := (xs (i + 2)).toInt64) hx hb dL_law_544 rfl ?_
  refine lv_bipush (v := nI 32) hx hb dL_law_545 (by decide) ?_
  refine lv_lshl (v := ((xs (i + 2)).toInt64) <<< (((nI 32)).toInt64 &&& 63)) hx hb dL_law_547 rfl ?_
  refine lv_aload_n hx hb dL_law_548 rfl (lv_at hl 5 rfl) ?_
  refine lv_iload hx hb dL_law_549 (lv_at hl 1 rfl) ?_
  refine lv_iconst (v := nI 3) hx hb dL_law_551 (by decide) ?_
  refine xr_iadd hx hb dL_law_552 ?_
  refine va_sld (i := nI (i + 3)) hx hb hX hbl hbA hS (nI_in (by omega) (by omega)) dL_law_553 ?_
  rw [show (nI (i + 3)).toNatClampNeg = i + 3 from nI_clamp (by omega)]
  refine lv_i2l (v := (xs (i + 3)).toInt64) hx hb dL_law_554 rfl ?_
  refine lv_ldc2 hx hb hown (htg _ qL_91) dL_law_555 ?_
  refine lv_land hx hb dL_law_558 ?_
  refine lv_lor hx hb dL_law_559 ?_
  refine lwm_wv (As := [.int (xs (i + 1)), .long (jL (xs (i + 2)) (xs (i + 3)))]) (rest := []) (n := 2) ⟨hx, hb, hml, hown, htg⟩ h2 (cwV 2 htg gL_106 rfl rfl rfl (by decide +kernel) ⟨Nat.le_of_ble_eq_true rfl, Nat.le_of_ble_eq_true rfl⟩) hK hP hD hS hA hl.1 rfl rfl (Nat.le_of_ble_eq_true rfl) dL_law_560 hc hs (fun H locs hP hD hS => ?_)
  refine lv_aload_n hx hb dL_law_563 rfl (lv_at hl 3 rfl) ?_
  refine lwm_ri (As := []) (rest := []) (n := 0) ⟨hx, hb, hml, hown, htg⟩ (m_thrown l τ') (cwV 0 htg gL_75 rfl rfl rfl (by decide +kernel) ⟨Nat.le_of_ble_eq_true rfl, Nat.le_of_ble_eq_true rfl⟩) hK hP hD hS hA hl.1 rfl rfl (Nat.le_of_ble_eq_true rfl) dL_law_564 hc hs (fun H locs hP hD hS => ?_)
  rw [hk]
  refine lv_iload hx hb dL_law_567 (lv_at hl 0 rfl) ?_
  refine xr_icmp_eq (tgt := 574) hx hb dL_law_569 (by decide) (by omega) (by omega) (fun c569 => ?_) (fun c569 => absurd c569 (by exact not_not_intro rfl))
  refine lv_goto (tgt := 1080) hx hb dL_law_574 (by decide) ?_
  exact kk _ _ ls hP hD hS (lv_sub hl [1, 2, 3, 4, 5] rfl)
set_option maxRecDepth 100000 in
set_option maxHeartbeats 4000000 in
theorem op_tag {p : Program} {l : Launch} {e : Env} {s : State} {m : MethodId} {below : List Frame} {meth : Method} {c : Code} {b L : Nat} {xs : Nat → Int32} {dC : Nat → ClassId} {dI : Nat → Nat → Nat} {cI cJ cZ : ClassId} {h g : Nat → Nat} {o : Nat} {Q : State → Prop} (C : opC p s m c b L xs dC dI cI cJ cZ) {i cells slots : Nat} (hi : i + 5 ≤ L) (hc : cells + 1 ≤ 1062) (hs : slots + 6 ≤ 24739) {σ : BJ} {τ τ' : BM} {f : Nat → Int64} {σ' : BJ} {k : Nat} {z : Option Int64} {r : Int64} (h1 : tW l yL_tag wsL_tag σ (fun o => [.int (xs (i + 1)), .ref o]) k z σ') (hk : kgTh τ' = k) (hk3 : k ≤ 3) (h2 : wMl l yX1_tag wsX1_tag ({ frames := 1, cells := 0, slots := 0, locals := 20 } : Room) τ [.int (xs (i + 1))] r τ') (hv : k = 0 → z = some r) {H : Heap} {locs : List Loc} (hP : va_P (dC, dI) vwCl (wLW cI cJ cZ h g o σ τ f) H) (hD : va_D (fun q : Nat => s.heap.size ≤ q) (wLW cI cJ cZ h g o σ τ f)) (hS : va_S (fun q : Nat => s.heap.size ≤ q) s.heap H locs) {ls : Array Slot} (hl : lv_has ls 8 [(4, .int (nI i)), (3, .ref o), (2, .ref (g 0)), (1, .ref (h 0)), (0, .ref b)]) (kk : ∀ (H1 : Heap) (locs1 : List Loc) (ls1 : Array Slot), va_P (dC, dI) vwCl (wLW cI cJ cZ h g o σ' τ' (ofV z f)) H1 → va_D (fun q : Nat => s.heap.size ≤ q) (wLW cI cJ cZ h g o σ' τ' (ofV z f)) → va_S (fun q : Nat => s.heap.size ≤ q) s.heap H1 locs1 → lv_has ls1 8 [(4, .int (nI i)), (3, .ref o), (2, .ref (g 0)), (1, .ref (h 0)), (0, .ref b)] → W p l e room_1 s m #[Value.ref b] below meth c H1 locs1 (cells + 1) (slots + 6) Q (F0 m 1080 ls1 [])) : W p l e room_1 s m #[Value.ref b] below meth c H locs cells slots Q (F0 m 577 ls []) := by
  obtain ⟨hx, hb, hml, hown, htg, hX, hbl, hK, hH, hN, hL⟩ := C
  have hA : ∀ q : Nat, s.heap.size ≤ q → (fun q : Nat => s.heap.size ≤ q) q := fun _ h => h
  have hbA : ¬ (fun q : Nat => s.heap.size ≤ q) b := Nat.not_le.mpr hbl
  refine lv_aload_n hx hb dL_law_577 rfl (lv_at hl 3 rfl) ?_
  refine lv_aload_n hx hb dL_law_578 rfl (lv_at hl 4 rfl) ?_
  refine lv_iload hx hb dL_law_579 (lv_at hl 0 rfl) ?_
  refine lv_iconst (v := nI 1) hx hb dL_law_581 (by decide) ?_
  refine xr_iadd hx hb dL_law_582 ?_
  refine va_sld (i := nI (i + 1)) hx hb hX hbl hbA hS (nI_in (by omega) (by omega)) dL_law_583 ?_
  rw [show (nI (i + 1)).toNatClampNeg = i + 1 from nI_clamp (by omega)]
  refine lv_aload_n hx hb dL_law_584 rfl (lv_at hl 1 rfl) ?_
  refine lw_tw (As := [.ref (h 0), .int (xs (i + 1)), .ref o]) (rest := []) (n := 3) ⟨hx, hb, hml, hown, htg⟩ h1 gL_107 rfl (by decide +kernel) (Nat.le_of_ble_eq_true rfl) (Nat.le_of_ble_eq_true rfl) hH hN rfl rfl hK hP hD hS hA hl.1 rfl rfl (Nat.le_of_ble_eq_true rfl) dL_law_585 hc hs (fun H locs hP hD hS => ?_)
  refine lv_istore (lv' := [(5, .int (nI k)), (4, .int (nI i)), (3, .ref o), (2, .ref (g 0)), (1, .ref (h 0)), (0, .ref b)]) hx hb dL_law_588 hl (by decide) rfl (fun ls hl => ?_)
  refine lv_aload_n hx hb dL_law_590 rfl (lv_at hl 3 rfl) ?_
  refine lv_aload_n hx hb dL_law_591 rfl (lv_at hl 5 rfl) ?_
  refine lv_iload hx hb dL_law_592 (lv_at hl 1 rfl) ?_
  refine lv_iconst (v := nI 1) hx hb dL_law_594 (by decide) ?_
  refine xr_iadd hx hb dL_law_595 ?_
  refine va_sld (i := nI (i + 1)) hx hb hX hbl hbA hS (nI_in (by omega) (by omega)) dL_law_596 ?_
  rw [show (nI (i + 1)).toNatClampNeg = i + 1 from nI_clamp (by omega)]
  refine lwm_wl (As := [.int (xs (i + 1))]) (rest := []) (n := 1) ⟨hx, hb, hml, hown, htg⟩ h2 (cwV 1 htg gL_109 rfl rfl rfl (by decide +kernel) ⟨Nat.le_of_ble_eq_true rfl, Nat.le_of_ble_eq_true rfl⟩) hK hP hD hS hA hl.1 rfl rfl (Nat.le_of_ble_eq_true rfl) dL_law_597 hc hs (fun H locs hP hD hS => ?_)
  refine lv_lstore (lv' := [(6, .long r), (5, .int (nI k)), (4, .int (nI i)), (3, .ref o), (2, .ref (g 0)), (1, .ref (h 0)), (0, .ref b)]) hx hb dL_law_600 hl (by decide) rfl (fun ls hl => ?_)
  refine lv_aload_n hx hb dL_law_602 rfl (lv_at hl 4 rfl) ?_
  refine lwm_ri (As := []) (rest := []) (n := 0) ⟨hx, hb, hml, hown, htg⟩ (m_thrown l τ') (cwV 0 htg gL_75 rfl rfl rfl (by decide +kernel) ⟨Nat.le_of_ble_eq_true rfl, Nat.le_of_ble_eq_true rfl⟩) hK hP hD hS hA hl.1 rfl rfl (Nat.le_of_ble_eq_true rfl) dL_law_603 hc hs (fun H locs hP hD hS => ?_)
  rw [hk]
  refine lv_iload hx hb dL_law_606 (lv_at hl 1 rfl) ?_
  refine xr_icmp_eq (tgt := 613) hx hb dL_law_608 (by decide) (by omega) (by omega) (fun c608 => ?_) (fun c608 => absurd c608 (by exact not_not_intro rfl))
  refine lv_iload hx hb dL_law_613 (lv_at hl 1 rfl) ?_
  refine lv_if_ne (tgt := 629) hx hb dL_law_615 (by decide) (fun c615 => ?_) (fun c615 => ?_)
  · refine lv_goto (tgt := 1080) hx hb dL_law_629 (by decide) ?_
    exact kk _ _ ls hP hD hS (lv_sub hl [2, 3, 4, 5, 6] rfl)
  · have hz0 : ofV z f 0 = r := by rw [hv ((nI_eq (by omega) (by omega)).mp (c615.trans nI_0.symm))]; rfl
    refine lv_aload_n hx hb dL_law_618 rfl (lv_at hl 3 rfl) ?_
    refine lv_iconst (v := nI 0) hx hb dL_law_619 (by decide) ?_
    refine xr_lald (f := ofV z f) (i := 0) hx hb hK hP 22 1 rfl rfl (by decide) (by decide) dL_law_620 ?_
    refine lv_lload hx hb dL_law_621 (lv_at hl 0 rfl) ?_
    refine xr_lcmp_eq (tgt := 629) hx hb dL_law_623 dL_law_624 (by decide) (fun c623 => ?_) (fun c623 => absurd c623 (by exact not_not_intro hz0))
    refine lv_goto (tgt := 1080) hx hb dL_law_629 (by decide) ?_
    exact kk _ _ ls hP hD hS (lv_sub hl [2, 3, 4, 5, 6] rfl)
set_option maxRecDepth 100000 in
set_option maxHeartbeats 4000000 in
theorem op_look {p : Program} {l : Launch} {e : Env} {s : State} {m : MethodId} {below : List Frame} {meth : Method} {c : Code} {b L : Nat} {xs : Nat → Int32} {dC : Nat → ClassId} {dI : Nat → Nat → Nat} {cI cJ cZ : ClassId} {h g : Nat → Nat} {o : Nat} {Q : State → Prop} (C : opC p s m c b L xs dC dI cI cJ cZ) {i cells slots : Nat} (hi : i + 5 ≤ L) (hc : cells + 1 ≤ 1062) (hs : slots + 6 ≤ 24739) {σ : BJ} {τ τ' : BM} {f : Nat → Int64} {σ' : BJ} {k : Nat} {z : Option Int64} {r : Int64} (h1 : tW l yL_look wsL_look σ (fun o => [.long (jL (xs (i + 1)) (xs (i + 2))), .ref o]) k z σ') (hk : kgTh τ' = k) (hk3 : k ≤ 3) (h2 : wMl l yX1_look wsX1_look ({ frames := 1, cells := 0, slots := 0, locals := 23 } : Room) τ [.long (jL (xs (i + 1)) (xs (i + 2)))] r τ') (hv : k = 0 → z = some r) {H : Heap} {locs : List Loc} (hP : va_P (dC, dI) vwCl (wLW cI cJ cZ h g o σ τ f) H) (hD : va_D (fun q : Nat => s.heap.size ≤ q) (wLW cI cJ cZ h g o σ τ f)) (hS : va_S (fun q : Nat => s.heap.size ≤ q) s.heap H locs) {ls : Array Slot} (hl : lv_has ls 8 [(4, .int (nI i)), (3, .ref o), (2, .ref (g 0)), (1, .ref (h 0)), (0, .ref b)]) (kk : ∀ (H1 : Heap) (locs1 : List Loc) (ls1 : Array Slot), va_P (dC, dI) vwCl (wLW cI cJ cZ h g o σ' τ' (ofV z f)) H1 → va_D (fun q : Nat => s.heap.size ≤ q) (wLW cI cJ cZ h g o σ' τ' (ofV z f)) → va_S (fun q : Nat => s.heap.size ≤ q) s.heap H1 locs1 → lv_has ls1 8 [(4, .int (nI i)), (3, .ref o), (2, .ref (g 0)), (1, .ref (h 0)), (0, .ref b)] → W p l e room_1 s m #[Value.ref b] below meth c H1 locs1 (cells + 1) (slots + 6) Q (F0 m 1080 ls1 [])) : W p l e room_1 s m #[Value.ref b] below meth c H locs cells slots Q (F0 m 632 ls []) := by
  obtain ⟨hx, hb, hml, hown, htg, hX, hbl, hK, hH, hN, hL⟩ := C
  have hA : ∀ q : Nat, s.heap.size ≤ q → (fun q : Nat => s.heap.size ≤ q) q := fun _ h => h
  have hbA : ¬ (fun q : Nat => s.heap.size ≤ q) b := Nat.not_le.mpr hbl
  refine lv_aload_n hx hb dL_law_632 rfl (lv_at hl 3 rfl) ?_
  refine lv_aload_n hx hb dL_law_633 rfl (lv_at hl 4 rfl) ?_
  refine lv_iload hx hb dL_law_634 (lv_at hl 0 rfl) ?_
  refine lv_iconst (v := nI 1) hx hb dL_law_636 (by decide) ?_
  refine xr_iadd hx hb dL_law_637 ?_
  refine va_sld (i := nI (i + 1)) hx hb hX hbl hbA hS (nI_in (by omega) (by omega)) dL_law_638 ?_
  rw [show (nI (i + 1)).toNatClampNeg = i + 1 from nI_clamp (by omega)]
  refine lv_i2l (v := (xs (i + 1)).toInt64) hx hb dL_law_639 rfl ?_
  refine lv_bipush (v := nI 32) hx hb dL_law_640 (by decide) ?_
  refine lv_lshl (v := ((xs (i + 1)).toInt64) <<< (((nI 32)).toInt64 &&& 63)) hx hb dL_law_642 rfl ?_
  refine lv_aload_n hx hb dL_law_643 rfl (lv_at hl 4 rfl) ?_
  refine lv_iload hx hb dL_law_644 (lv_at hl 0 rfl) ?_
  refine lv_iconst (v := nI 2) hx hb dL_law_646 (by decide) ?_
  refine xr_iadd hx hb dL_law_647 ?_
  refine va_sld (i := nI (i + 2)) hx hb hX hbl hbA hS (nI_in (by omega) (by omega)) dL_law_648 ?_
  rw [show (nI (i + 2)).toNatClampNeg = i + 2 from nI_clamp (by omega)]
  refine lv_i2l (v := (xs (i + 2)).toInt64) hx hb dL_law_649 rfl ?_
  refine lv_ldc2 hx hb hown (htg _ qL_91) dL_law_650 ?_
  refine lv_land hx hb dL_law_653 ?_
  refine lv_lor hx hb dL_law_654 ?_
  refine lv_aload_n hx hb dL_law_655 rfl (lv_at hl 1 rfl) ?_
  refine lw_tw (As := [.ref (h 0), .long (jL (xs (i + 1)) (xs (i + 2))), .ref o]) (rest := []) (n := 3) ⟨hx, hb, hml, hown, htg⟩ h1 gL_110 rfl (by decide +kernel) (Nat.le_of_ble_eq_true rfl) (Nat.le_of_ble_eq_true rfl) hH hN rfl rfl hK hP hD hS hA hl.1 rfl rfl (Nat.le_of_ble_eq_true rfl) dL_law_656 hc hs (fun H locs hP hD hS => ?_)
  refine lv_istore (lv' := [(5, .int (nI k)), (4, .int (nI i)), (3, .ref o), (2, .ref (g 0)), (1, .ref (h 0)), (0, .ref b)]) hx hb dL_law_659 hl (by decide) rfl (fun ls hl => ?_)
  refine lv_aload_n hx hb dL_law_661 rfl (lv_at hl 3 rfl) ?_
  refine lv_aload_n hx hb dL_law_662 rfl (lv_at hl 5 rfl) ?_
  refine lv_iload hx hb dL_law_663 (lv_at hl 1 rfl) ?_
  refine lv_iconst (v := nI 1) hx hb dL_law_665 (by decide) ?_
  refine xr_iadd hx hb dL_law_666 ?_
  refine va_sld (i := nI (i + 1)) hx hb hX hbl hbA hS (nI_in (by omega) (by omega)) dL_law_667 ?_
  rw [show (nI (i + 1)).toNatClampNeg = i + 1 from nI_clamp (by omega)]
  refine lv_i2l (v := (xs (i + 1)).toInt64) hx hb dL_law_668 rfl ?_
  refine lv_bipush (v := nI 32) hx hb dL_law_669 (by decide) ?_
  refine lv_lshl (v := ((xs (i + 1)).toInt64) <<< (((nI 32)).toInt64 &&& 63)) hx hb dL_law_671 rfl ?_
  refine lv_aload_n hx hb dL_law_672 rfl (lv_at hl 5 rfl) ?_
  refine lv_iload hx hb dL_law_673 (lv_at hl 1 rfl) ?_
  refine lv_iconst (v := nI 2) hx hb dL_law_675 (by decide) ?_
  refine xr_iadd hx hb dL_law_676 ?_
  refine va_sld (i := nI (i + 2)) hx hb hX hbl hbA hS (nI_in (by omega) (by omega)) dL_law_677 ?_
  rw [show (nI (i + 2)).toNatClampNeg = i + 2 from nI_clamp (by omega)]
  refine lv_i2l (v := (xs (i + 2)).toInt64) hx hb dL_law_678 rfl ?_
  refine lv_ldc2 hx hb hown (htg _ qL_91) dL_law_679 ?_
  refine lv_land hx hb dL_law_682 ?_
  refine lv_lor hx hb dL_law_683 ?_
  refine lwm_wl (As := [.long (jL (xs (i + 1)) (xs (i + 2)))]) (rest := []) (n := 1) ⟨hx, hb, hml, hown, htg⟩ h2 (cwV 1 htg gL_113 rfl rfl rfl (by decide +kernel) ⟨Nat.le_of_ble_eq_true rfl, Nat.le_of_ble_eq_true rfl⟩) hK hP hD hS hA hl.1 rfl rfl (Nat.le_of_ble_eq_true rfl) dL_law_684 hc hs (fun H locs hP hD hS => ?_)
  refine lv_lstore (lv' := [(6, .long r), (5, .int (nI k)), (4, .int (nI i)), (3, .ref o), (2, .ref (g 0)), (1, .ref (h 0)), (0, .ref b)]) hx hb dL_law_687 hl (by decide) rfl (fun ls hl => ?_)
  refine lv_aload_n hx hb dL_law_689 rfl (lv_at hl 4 rfl) ?_
  refine lwm_ri (As := []) (rest := []) (n := 0) ⟨hx, hb, hml, hown, htg⟩ (m_thrown l τ') (cwV 0 htg gL_75 rfl rfl rfl (by decide +kernel) ⟨Nat.le_of_ble_eq_true rfl, Nat.le_of_ble_eq_true rfl⟩) hK hP hD hS hA hl.1 rfl rfl (Nat.le_of_ble_eq_true rfl) dL_law_690 hc hs (fun H locs hP hD hS => ?_)
  rw [hk]
  refine lv_iload hx hb dL_law_693 (lv_at hl 1 rfl) ?_
  refine xr_icmp_eq (tgt := 700) hx hb dL_law_695 (by decide) (by omega) (by omega) (fun c695 => ?_) (fun c695 => absurd c695 (by exact not_not_intro rfl))
  refine lv_iload hx hb dL_law_700 (lv_at hl 1 rfl) ?_
  refine lv_if_ne (tgt := 716) hx hb dL_law_702 (by decide) (fun c702 => ?_) (fun c702 => ?_)
  · refine lv_goto (tgt := 1080) hx hb dL_law_716 (by decide) ?_
    exact kk _ _ ls hP hD hS (lv_sub hl [2, 3, 4, 5, 6] rfl)
  · have hz0 : ofV z f 0 = r := by rw [hv ((nI_eq (by omega) (by omega)).mp (c702.trans nI_0.symm))]; rfl
    refine lv_aload_n hx hb dL_law_705 rfl (lv_at hl 3 rfl) ?_
    refine lv_iconst (v := nI 0) hx hb dL_law_706 (by decide) ?_
    refine xr_lald (f := ofV z f) (i := 0) hx hb hK hP 22 1 rfl rfl (by decide) (by decide) dL_law_707 ?_
    refine lv_lload hx hb dL_law_708 (lv_at hl 0 rfl) ?_
    refine xr_lcmp_eq (tgt := 716) hx hb dL_law_710 dL_law_711 (by decide) (fun c710 => ?_) (fun c710 => absurd c710 (by exact not_not_intro hz0))
    refine lv_goto (tgt := 1080) hx hb dL_law_716 (by decide) ?_
    exact kk _ _ ls hP hD hS (lv_sub hl [2, 3, 4, 5, 6] rfl)
set_option maxRecDepth 100000 in
set_option maxHeartbeats 4000000 in
theorem op_length {p : Program} {l : Launch} {e : Env} {s : State} {m : MethodId} {below : List Frame} {meth : Method} {c : Code} {b L : Nat} {xs : Nat → Int32} {dC : Nat → ClassId} {dI : Nat → Nat → Nat} {cI cJ cZ : ClassId} {h g : Nat → Nat} {o : Nat} {Q : State → Prop} (C : opC p s m c b L xs dC dI cI cJ cZ) {i cells slots : Nat} (hi : i + 5 ≤ L) (hc : cells + 1 ≤ 1062) (hs : slots + 6 ≤ 24739) {σ : BJ} {τ τ' : BM} {f : Nat → Int64} {r : Int32} {rm : Room} (h2 : wMi l yX1_length wsX1_length ({ frames := 1, cells := 0, slots := 0, locals := 23 } : Room) τ [.long (jL (xs (i + 1)) (xs (i + 2)))] r τ') (h1 : rBi l yX0_length wsX0_length rm σ [.long (jL (xs (i + 1)) (xs (i + 2)))] r) (hrc : rm.cells = 0) (hrs : rm.slots = 0) (hfr : rm.frames + 1 ≤ 11) (hlo : 8 + (4 + 11) + rm.locals ≤ 394) {H : Heap} {locs : List Loc} (hP : va_P (dC, dI) vwCl (wLW cI cJ cZ h g o σ τ f) H) (hD : va_D (fun q : Nat => s.heap.size ≤ q) (wLW cI cJ cZ h g o σ τ f)) (hS : va_S (fun q : Nat => s.heap.size ≤ q) s.heap H locs) {ls : Array Slot} (hl : lv_has ls 8 [(4, .int (nI i)), (3, .ref o), (2, .ref (g 0)), (1, .ref (h 0)), (0, .ref b)]) (kk : ∀ (H1 : Heap) (locs1 : List Loc) (ls1 : Array Slot), va_P (dC, dI) vwCl (wLW cI cJ cZ h g o σ τ' f) H1 → va_D (fun q : Nat => s.heap.size ≤ q) (wLW cI cJ cZ h g o σ τ' f) → va_S (fun q : Nat => s.heap.size ≤ q) s.heap H1 locs1 → lv_has ls1 8 [(4, .int (nI i)), (3, .ref o), (2, .ref (g 0)), (1, .ref (h 0)), (0, .ref b)] → W p l e room_1 s m #[Value.ref b] below meth c H1 locs1 (cells + 1) (slots + 6) Q (F0 m 1080 ls1 [])) : W p l e room_1 s m #[Value.ref b] below meth c H locs cells slots Q (F0 m 719 ls []) := by
  obtain ⟨hx, hb, hml, hown, htg, hX, hbl, hK, hH, hN, hL⟩ := C
  have hA : ∀ q : Nat, s.heap.size ≤ q → (fun q : Nat => s.heap.size ≤ q) q := fun _ h => h
  have hbA : ¬ (fun q : Nat => s.heap.size ≤ q) b := Nat.not_le.mpr hbl
  refine lv_aload_n hx hb dL_law_719 rfl (lv_at hl 3 rfl) ?_
  refine lv_aload_n hx hb dL_law_720 rfl (lv_at hl 4 rfl) ?_
  refine lv_iload hx hb dL_law_721 (lv_at hl 0 rfl) ?_
  refine lv_iconst (v := nI 1) hx hb dL_law_723 (by decide) ?_
  refine xr_iadd hx hb dL_law_724 ?_
  refine va_sld (i := nI (i + 1)) hx hb hX hbl hbA hS (nI_in (by omega) (by omega)) dL_law_725 ?_
  rw [show (nI (i + 1)).toNatClampNeg = i + 1 from nI_clamp (by omega)]
  refine lv_i2l (v := (xs (i + 1)).toInt64) hx hb dL_law_726 rfl ?_
  refine lv_bipush (v := nI 32) hx hb dL_law_727 (by decide) ?_
  refine lv_lshl (v := ((xs (i + 1)).toInt64) <<< (((nI 32)).toInt64 &&& 63)) hx hb dL_law_729 rfl ?_
  refine lv_aload_n hx hb dL_law_730 rfl (lv_at hl 4 rfl) ?_
  refine lv_iload hx hb dL_law_731 (lv_at hl 0 rfl) ?_
  refine lv_iconst (v := nI 2) hx hb dL_law_733 (by decide) ?_
  refine xr_iadd hx hb dL_law_734 ?_
  refine va_sld (i := nI (i + 2)) hx hb hX hbl hbA hS (nI_in (by omega) (by omega)) dL_law_735 ?_
  rw [show (nI (i + 2)).toNatClampNeg = i + 2 from nI_clamp (by omega)]
  refine lv_i2l (v := (xs (i + 2)).toInt64) hx hb dL_law_736 rfl ?_
  refine lv_ldc2 hx hb hown (htg _ qL_91) dL_law_737 ?_
  refine lv_land hx hb dL_law_740 ?_
  refine lv_lor hx hb dL_law_741 ?_
  refine lwc_ri (As := [.long (jL (xs (i + 1)) (xs (i + 2)))]) (rest := []) (n := 1) ⟨hx, hb, hml, hown, htg⟩ h1 (cwV 1 htg gL_114 rfl hrc hrs (by decide +kernel) ⟨hfr, hlo⟩) hK hP hD hS hA hl.1 rfl rfl (Nat.le_of_ble_eq_true rfl) dL_law_742 (Nat.le_trans (Nat.le_succ _) hc) (Nat.le_trans (Nat.le_add_right _ 6) hs) (fun H locs hP hD hS => ?_)
  refine lv_aload_n hx hb dL_law_745 rfl (lv_at hl 2 rfl) ?_
  refine lv_aload_n hx hb dL_law_746 rfl (lv_at hl 4 rfl) ?_
  refine lv_iload hx hb dL_law_747 (lv_at hl 0 rfl) ?_
  refine lv_iconst (v := nI 1) hx hb dL_law_749 (by decide) ?_
  refine xr_iadd hx hb dL_law_750 ?_
  refine va_sld (i := nI (i + 1)) hx hb hX hbl hbA hS (nI_in (by omega) (by omega)) dL_law_751 ?_
  rw [show (nI (i + 1)).toNatClampNeg = i + 1 from nI_clamp (by omega)]
  refine lv_i2l (v := (xs (i + 1)).toInt64) hx hb dL_law_752 rfl ?_
  refine lv_bipush (v := nI 32) hx hb dL_law_753 (by decide) ?_
  refine lv_lshl (v := ((xs (i + 1)).toInt64) <<< (((nI 32)).toInt64 &&& 63)) hx hb dL_law_755 rfl ?_
  refine lv_aload_n hx hb dL_law_756 rfl (lv_at hl 4 rfl) ?_
  refine lv_iload hx hb dL_law_757 (lv_at hl 0 rfl) ?_
  refine lv_iconst (v := nI 2) hx hb dL_law_759 (by decide) ?_
  refine xr_iadd hx hb dL_law_760 ?_
  refine va_sld (i := nI (i + 2)) hx hb hX hbl hbA hS (nI_in (by omega) (by omega)) dL_law_761 ?_
  rw [show (nI (i + 2)).toNatClampNeg = i + 2 from nI_clamp (by omega)]
  refine lv_i2l (v := (xs (i + 2)).toInt64) hx hb dL_law_762 rfl ?_
  refine lv_ldc2 hx hb hown (htg _ qL_91) dL_law_763 ?_
  refine lv_land hx hb dL_law_766 ?_
  refine lv_lor hx hb dL_law_767 ?_
  refine lwm_wi (As := [.long (jL (xs (i + 1)) (xs (i + 2)))]) (rest := [.int r]) (n := 1) ⟨hx, hb, hml, hown, htg⟩ h2 (cwV 1 htg gL_118 rfl rfl rfl (by decide +kernel) ⟨Nat.le_of_ble_eq_true rfl, Nat.le_of_ble_eq_true rfl⟩) hK hP hD hS hA hl.1 rfl rfl (Nat.le_of_ble_eq_true rfl) dL_law_768 (Nat.le_trans (Nat.le_succ _) hc) (Nat.le_trans (Nat.le_add_right _ 6) hs) (fun H locs hP hD hS => ?_)
  refine lv_icmp_eq (tgt := 1080) hx hb dL_law_771 (by decide) (fun c771 => ?_) (fun c771 => absurd c771 (by exact not_not_intro rfl))
  refine W.widen (k := cells + 1) (n := slots + 6) (by omega) (by omega) ?_
  exact kk _ _ ls hP hD hS (lv_sub hl [0, 1, 2, 3, 4] rfl)
