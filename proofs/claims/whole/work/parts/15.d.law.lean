/-! the law: its calls -/
set_option maxHeartbeats 4000000 in
set_option maxRecDepth 100000 in
theorem lc7 {p : Program} {l : Launch} {e : Env} {s : State} {m : MethodId} {below : List Frame} {meth : Method} {c : Code} {b L : Nat} {xs : Nat → Int32} {D : va_G} {cA cB : Nat → ClassId} {ad bd : Nat → Nat} {i : Nat} (C : LCx p s m c b L xs D cA cB) (hi : i + 4 ≤ L) (nx : LG p l e s m below meth c b D cA cB ad bd 699 i) : LG p l e s m below meth c b D cA cB ad bd 381 i := by
  obtain ⟨hx, hb, hml, hown, hts, hN, hK, hKM, hX, hbl, hL⟩ := C
  have hA : ∀ q : Nat, s.heap.size ≤ q → (fun q : Nat => s.heap.size ≤ q) q := fun _ h => h
  have hbA : ¬ (fun q : Nat => s.heap.size ≤ q) b := Nat.not_le.mpr hbl
  have hNM : ∀ w ∈ nwM, va_Nw w s := fun w h => by cases h
  intro g σ τ H locs ls hσ hτ hP hD hS hl
  refine lv_aload_n hx hb dL_law_381 rfl (lv_at hl 1 rfl) ?_
  refine lv_aload_n hx hb dL_law_382 rfl (lv_at hl 0 rfl) ?_
  refine lv_iload_n hx hb dL_law_383 rfl (lv_at hl 3 rfl) ?_
  refine lv_iconst (v := (1 : Int32)) hx hb dL_law_384 (by decide) ?_
  refine lv_iadd hx hb dL_law_385 ?_
  refine va_sld hx hb hX hbl hbA hS (l_in (k := 1) hL hi (by decide)) dL_law_386 ?_
  refine lv_aload_n hx hb dL_law_387 rfl (lv_at hl 0 rfl) ?_
  refine lv_iload_n hx hb dL_law_388 rfl (lv_at hl 3 rfl) ?_
  refine lv_iconst (v := (2 : Int32)) hx hb dL_law_389 (by decide) ?_
  refine lv_iadd hx hb dL_law_390 ?_
  refine va_sld hx hb hX hbl hbA hS (l_in (k := 2) hL hi (by decide)) dL_law_391 ?_
  refine lv_aload_n hx hb dL_law_392 rfl (lv_at hl 0 rfl) ?_
  refine lv_iload_n hx hb dL_law_393 rfl (lv_at hl 3 rfl) ?_
  refine lv_iconst (v := (3 : Int32)) hx hb dL_law_394 (by decide) ?_
  refine lv_iadd hx hb dL_law_395 ?_
  refine va_sld hx hb hX hbl hbA hS (l_in (k := 3) hL hi (by decide)) dL_law_396 ?_
  refine l_calli (va_runV (As := [.int (xs ((nI i) + (1 : Int32)).toNatClampNeg), .int (xs ((nI i) + (2 : Int32)).toNatClampNeg), .int (xs ((nI i) + (3 : Int32)).toNatClampNeg)]) (rest := []) ⟨hx, hb, hml, hown, hts⟩ (mtX7_paths l D ad cA (va_A (wX ad cA σ) H.size) σ (xs ((nI i) + (1 : Int32)).toNatClampNeg) (xs ((nI i) + (2 : Int32)).toNatClampNeg) (xs ((nI i) + (3 : Int32)).toNatClampNeg) (fun (r : Int32) (ρ : Sto) => r = rPaths (xs ((nI i) + (1 : Int32)).toNatClampNeg) (xs ((nI i) + (2 : Int32)).toNatClampNeg) (xs ((nI i) + (3 : Int32)).toNatClampNeg) ∧ XI ρ (gPaths g (xs ((nI i) + (1 : Int32)).toNatClampNeg) (xs ((nI i) + (2 : Int32)).toNatClampNeg) (xs ((nI i) + (3 : Int32)).toNatClampNeg))) (xPaths_ok hσ (fun ρ hρ => (⟨rfl, hρ⟩ : rPaths (xs ((nI i) + (1 : Int32)).toNatClampNeg) (xs ((nI i) + (2 : Int32)).toNatClampNeg) (xs ((nI i) + (3 : Int32)).toNatClampNeg) = rPaths (xs ((nI i) + (1 : Int32)).toNatClampNeg) (xs ((nI i) + (2 : Int32)).toNatClampNeg) (xs ((nI i) + (3 : Int32)).toNatClampNeg) ∧ XI ρ (gPaths g (xs ((nI i) + (1 : Int32)).toNatClampNeg) (xs ((nI i) + (2 : Int32)).toNatClampNeg) (xs ((nI i) + (3 : Int32)).toNatClampNeg)))))) (cwV 3 hts gL_law_X7_paths rfl rfl rfl (by decide +kernel) ⟨Nat.le_of_ble_eq_true rfl, Nat.le_of_ble_eq_true rfl⟩) ⟨stW_blind nwX_ok, va_recv hK hP.appL (ci := 7) (q0 := 0) rfl wXg0, stW_passA hN hK hP hD nwX_ok⟩ rfl rfl hl.1 rfl (lv_room (Nat.le_of_ble_eq_true rfl)) dL_law_397 ⟨Nat.le_of_ble_eq_true rfl, Nat.le_of_ble_eq_true rfl⟩) hS hA hP hD (fun r1 σ H locs hq1 hP hD hS => ?_)
  refine lv_aload_n hx hb dL_law_400 rfl (lv_at hl 2 rfl) ?_
  refine lv_aload_n hx hb dL_law_401 rfl (lv_at hl 0 rfl) ?_
  refine lv_iload_n hx hb dL_law_402 rfl (lv_at hl 3 rfl) ?_
  refine lv_iconst (v := (1 : Int32)) hx hb dL_law_403 (by decide) ?_
  refine lv_iadd hx hb dL_law_404 ?_
  refine va_sld hx hb hX hbl hbA hS (l_in (k := 1) hL hi (by decide)) dL_law_405 ?_
  refine lv_aload_n hx hb dL_law_406 rfl (lv_at hl 0 rfl) ?_
  refine lv_iload_n hx hb dL_law_407 rfl (lv_at hl 3 rfl) ?_
  refine lv_iconst (v := (2 : Int32)) hx hb dL_law_408 (by decide) ?_
  refine lv_iadd hx hb dL_law_409 ?_
  refine va_sld hx hb hX hbl hbA hS (l_in (k := 2) hL hi (by decide)) dL_law_410 ?_
  refine lv_aload_n hx hb dL_law_411 rfl (lv_at hl 0 rfl) ?_
  refine lv_iload_n hx hb dL_law_412 rfl (lv_at hl 3 rfl) ?_
  refine lv_iconst (v := (3 : Int32)) hx hb dL_law_413 (by decide) ?_
  refine lv_iadd hx hb dL_law_414 ?_
  refine va_sld hx hb hX hbl hbA hS (l_in (k := 3) hL hi (by decide)) dL_law_415 ?_
  have hP := hP.turn
  have hD := hD.turn
  refine l_calli (va_runV (As := [.int (xs ((nI i) + (1 : Int32)).toNatClampNeg), .int (xs ((nI i) + (2 : Int32)).toNatClampNeg), .int (xs ((nI i) + (3 : Int32)).toNatClampNeg)]) (rest := [.int r1]) ⟨hx, hb, hml, hown, hts⟩ (mtX8_paths l D bd cB (va_A (wM bd cB τ) H.size) τ (xs ((nI i) + (1 : Int32)).toNatClampNeg) (xs ((nI i) + (2 : Int32)).toNatClampNeg) (xs ((nI i) + (3 : Int32)).toNatClampNeg) (fun (r : Int32) (ρ : Sto) => r = rPaths (xs ((nI i) + (1 : Int32)).toNatClampNeg) (xs ((nI i) + (2 : Int32)).toNatClampNeg) (xs ((nI i) + (3 : Int32)).toNatClampNeg) ∧ MI ρ (gPaths g (xs ((nI i) + (1 : Int32)).toNatClampNeg) (xs ((nI i) + (2 : Int32)).toNatClampNeg) (xs ((nI i) + (3 : Int32)).toNatClampNeg))) (mPaths_ok hτ (fun ρ hρ => (⟨rfl, hρ⟩ : rPaths (xs ((nI i) + (1 : Int32)).toNatClampNeg) (xs ((nI i) + (2 : Int32)).toNatClampNeg) (xs ((nI i) + (3 : Int32)).toNatClampNeg) = rPaths (xs ((nI i) + (1 : Int32)).toNatClampNeg) (xs ((nI i) + (2 : Int32)).toNatClampNeg) (xs ((nI i) + (3 : Int32)).toNatClampNeg) ∧ MI ρ (gPaths g (xs ((nI i) + (1 : Int32)).toNatClampNeg) (xs ((nI i) + (2 : Int32)).toNatClampNeg) (xs ((nI i) + (3 : Int32)).toNatClampNeg)))))) (cwV 3 hts gL_law_X8_paths rfl rfl rfl (by decide +kernel) ⟨Nat.le_of_ble_eq_true rfl, Nat.le_of_ble_eq_true rfl⟩) ⟨stW_blind nwM_ok, va_recv hKM hP.appL (ci := 8) (q0 := 0) rfl wMg0, stW_passA hNM hKM hP hD nwM_ok⟩ rfl rfl hl.1 rfl (lv_room (Nat.le_of_ble_eq_true rfl)) dL_law_416 ⟨Nat.le_of_ble_eq_true rfl, Nat.le_of_ble_eq_true rfl⟩) hS hA hP hD (fun r2 τ H locs hq2 hP hD hS => ?_)
  have hP := hP.turn
  have hD := hD.turn
  refine lv_icmp_eq (tgt := 699) hx hb dL_law_419 (by decide) (fun hc => ?_) (fun hc => ?_)
  · exact nx _ _ _ _ _ _ hq1.2 hq2.2 hP hD hS hl
  · exact absurd (hq1.1.trans hq2.1.symm) hc
set_option maxHeartbeats 4000000 in
set_option maxRecDepth 100000 in
theorem lc8 {p : Program} {l : Launch} {e : Env} {s : State} {m : MethodId} {below : List Frame} {meth : Method} {c : Code} {b L : Nat} {xs : Nat → Int32} {D : va_G} {cA cB : Nat → ClassId} {ad bd : Nat → Nat} {i : Nat} (C : LCx p s m c b L xs D cA cB) (hi : i + 4 ≤ L) (nx : LG p l e s m below meth c b D cA cB ad bd 699 i) : LG p l e s m below meth c b D cA cB ad bd 424 i := by
  obtain ⟨hx, hb, hml, hown, hts, hN, hK, hKM, hX, hbl, hL⟩ := C
  have hA : ∀ q : Nat, s.heap.size ≤ q → (fun q : Nat => s.heap.size ≤ q) q := fun _ h => h
  have hbA : ¬ (fun q : Nat => s.heap.size ≤ q) b := Nat.not_le.mpr hbl
  have hNM : ∀ w ∈ nwM, va_Nw w s := fun w h => by cases h
  intro g σ τ H locs ls hσ hτ hP hD hS hl
  refine lv_aload_n hx hb dL_law_424 rfl (lv_at hl 1 rfl) ?_
  refine lv_aload_n hx hb dL_law_425 rfl (lv_at hl 0 rfl) ?_
  refine lv_iload_n hx hb dL_law_426 rfl (lv_at hl 3 rfl) ?_
  refine lv_iconst (v := (1 : Int32)) hx hb dL_law_427 (by decide) ?_
  refine lv_iadd hx hb dL_law_428 ?_
  refine va_sld hx hb hX hbl hbA hS (l_in (k := 1) hL hi (by decide)) dL_law_429 ?_
  refine lv_aload_n hx hb dL_law_430 rfl (lv_at hl 0 rfl) ?_
  refine lv_iload_n hx hb dL_law_431 rfl (lv_at hl 3 rfl) ?_
  refine lv_iconst (v := (2 : Int32)) hx hb dL_law_432 (by decide) ?_
  refine lv_iadd hx hb dL_law_433 ?_
  refine va_sld hx hb hX hbl hbA hS (l_in (k := 2) hL hi (by decide)) dL_law_434 ?_
  refine l_calli (va_runV (As := [.int (xs ((nI i) + (1 : Int32)).toNatClampNeg), .int (xs ((nI i) + (2 : Int32)).toNatClampNeg)]) (rest := []) ⟨hx, hb, hml, hown, hts⟩ (mtX7_weigh l D ad cA (va_A (wX ad cA σ) H.size) σ (xs ((nI i) + (1 : Int32)).toNatClampNeg) (xs ((nI i) + (2 : Int32)).toNatClampNeg) (fun (r : Int32) (ρ : Sto) => r = rWeigh g (xs ((nI i) + (1 : Int32)).toNatClampNeg) (xs ((nI i) + (2 : Int32)).toNatClampNeg) ∧ XI ρ (gWeigh g (xs ((nI i) + (1 : Int32)).toNatClampNeg) (xs ((nI i) + (2 : Int32)).toNatClampNeg))) (xWeigh_ok hσ (fun ρ hρ => (⟨rfl, hρ⟩ : rWeigh g (xs ((nI i) + (1 : Int32)).toNatClampNeg) (xs ((nI i) + (2 : Int32)).toNatClampNeg) = rWeigh g (xs ((nI i) + (1 : Int32)).toNatClampNeg) (xs ((nI i) + (2 : Int32)).toNatClampNeg) ∧ XI ρ (gWeigh g (xs ((nI i) + (1 : Int32)).toNatClampNeg) (xs ((nI i) + (2 : Int32)).toNatClampNeg)))))) (cwV 2 hts gL_law_X7_weigh rfl rfl rfl (by decide +kernel) ⟨Nat.le_of_ble_eq_true rfl, Nat.le_of_ble_eq_true rfl⟩) ⟨stW_blind nwX_ok, va_recv hK hP.appL (ci := 7) (q0 := 0) rfl wXg0, stW_passA hN hK hP hD nwX_ok⟩ rfl rfl hl.1 rfl (lv_room (Nat.le_of_ble_eq_true rfl)) dL_law_435 ⟨Nat.le_of_ble_eq_true rfl, Nat.le_of_ble_eq_true rfl⟩) hS hA hP hD (fun r1 σ H locs hq1 hP hD hS => ?_)
  refine lv_aload_n hx hb dL_law_438 rfl (lv_at hl 2 rfl) ?_
  refine lv_aload_n hx hb dL_law_439 rfl (lv_at hl 0 rfl) ?_
  refine lv_iload_n hx hb dL_law_440 rfl (lv_at hl 3 rfl) ?_
  refine lv_iconst (v := (1 : Int32)) hx hb dL_law_441 (by decide) ?_
  refine lv_iadd hx hb dL_law_442 ?_
  refine va_sld hx hb hX hbl hbA hS (l_in (k := 1) hL hi (by decide)) dL_law_443 ?_
  refine lv_aload_n hx hb dL_law_444 rfl (lv_at hl 0 rfl) ?_
  refine lv_iload_n hx hb dL_law_445 rfl (lv_at hl 3 rfl) ?_
  refine lv_iconst (v := (2 : Int32)) hx hb dL_law_446 (by decide) ?_
  refine lv_iadd hx hb dL_law_447 ?_
  refine va_sld hx hb hX hbl hbA hS (l_in (k := 2) hL hi (by decide)) dL_law_448 ?_
  have hP := hP.turn
  have hD := hD.turn
  refine l_calli (va_runV (As := [.int (xs ((nI i) + (1 : Int32)).toNatClampNeg), .int (xs ((nI i) + (2 : Int32)).toNatClampNeg)]) (rest := [.int r1]) ⟨hx, hb, hml, hown, hts⟩ (mtX8_weigh l D bd cB (va_A (wM bd cB τ) H.size) τ (xs ((nI i) + (1 : Int32)).toNatClampNeg) (xs ((nI i) + (2 : Int32)).toNatClampNeg) (fun (r : Int32) (ρ : Sto) => r = rWeigh g (xs ((nI i) + (1 : Int32)).toNatClampNeg) (xs ((nI i) + (2 : Int32)).toNatClampNeg) ∧ MI ρ (gWeigh g (xs ((nI i) + (1 : Int32)).toNatClampNeg) (xs ((nI i) + (2 : Int32)).toNatClampNeg))) (mWeigh_ok hτ (fun ρ hρ => (⟨rfl, hρ⟩ : rWeigh g (xs ((nI i) + (1 : Int32)).toNatClampNeg) (xs ((nI i) + (2 : Int32)).toNatClampNeg) = rWeigh g (xs ((nI i) + (1 : Int32)).toNatClampNeg) (xs ((nI i) + (2 : Int32)).toNatClampNeg) ∧ MI ρ (gWeigh g (xs ((nI i) + (1 : Int32)).toNatClampNeg) (xs ((nI i) + (2 : Int32)).toNatClampNeg)))))) (cwV 2 hts gL_law_X8_weigh rfl rfl rfl (by decide +kernel) ⟨Nat.le_of_ble_eq_true rfl, Nat.le_of_ble_eq_true rfl⟩) ⟨stW_blind nwM_ok, va_recv hKM hP.appL (ci := 8) (q0 := 0) rfl wMg0, stW_passA hNM hKM hP hD nwM_ok⟩ rfl rfl hl.1 rfl (lv_room (Nat.le_of_ble_eq_true rfl)) dL_law_449 ⟨Nat.le_of_ble_eq_true rfl, Nat.le_of_ble_eq_true rfl⟩) hS hA hP hD (fun r2 τ H locs hq2 hP hD hS => ?_)
  have hP := hP.turn
  have hD := hD.turn
  refine lv_icmp_eq (tgt := 699) hx hb dL_law_452 (by decide) (fun hc => ?_) (fun hc => ?_)
  · exact nx _ _ _ _ _ _ hq1.2 hq2.2 hP hD hS hl
  · exact absurd (hq1.1.trans hq2.1.symm) hc
set_option maxHeartbeats 4000000 in
set_option maxRecDepth 100000 in
theorem lc9 {p : Program} {l : Launch} {e : Env} {s : State} {m : MethodId} {below : List Frame} {meth : Method} {c : Code} {b L : Nat} {xs : Nat → Int32} {D : va_G} {cA cB : Nat → ClassId} {ad bd : Nat → Nat} {i : Nat} (C : LCx p s m c b L xs D cA cB) (hi : i + 4 ≤ L) (nx : LG p l e s m below meth c b D cA cB ad bd 699 i) : LG p l e s m below meth c b D cA cB ad bd 457 i := by
  obtain ⟨hx, hb, hml, hown, hts, hN, hK, hKM, hX, hbl, hL⟩ := C
  have hA : ∀ q : Nat, s.heap.size ≤ q → (fun q : Nat => s.heap.size ≤ q) q := fun _ h => h
  have hbA : ¬ (fun q : Nat => s.heap.size ≤ q) b := Nat.not_le.mpr hbl
  have hNM : ∀ w ∈ nwM, va_Nw w s := fun w h => by cases h
  intro g σ τ H locs ls hσ hτ hP hD hS hl
  refine lv_aload_n hx hb dL_law_457 rfl (lv_at hl 1 rfl) ?_
  refine lv_aload_n hx hb dL_law_458 rfl (lv_at hl 0 rfl) ?_
  refine lv_iload_n hx hb dL_law_459 rfl (lv_at hl 3 rfl) ?_
  refine lv_iconst (v := (1 : Int32)) hx hb dL_law_460 (by decide) ?_
  refine lv_iadd hx hb dL_law_461 ?_
  refine va_sld hx hb hX hbl hbA hS (l_in (k := 1) hL hi (by decide)) dL_law_462 ?_
  refine l_calli (va_runV (As := [.int (xs ((nI i) + (1 : Int32)).toNatClampNeg)]) (rest := []) ⟨hx, hb, hml, hown, hts⟩ (mtX7_weight l D ad cA (va_A (wX ad cA σ) H.size) σ (xs ((nI i) + (1 : Int32)).toNatClampNeg) (fun (r : Int32) (ρ : Sto) => r = rWeight g (xs ((nI i) + (1 : Int32)).toNatClampNeg) ∧ XI ρ (g)) (xWeight_ok hσ (fun ρ hρ => (⟨rfl, hρ⟩ : rWeight g (xs ((nI i) + (1 : Int32)).toNatClampNeg) = rWeight g (xs ((nI i) + (1 : Int32)).toNatClampNeg) ∧ XI ρ (g))))) (cwV 1 hts gL_law_X7_weight rfl rfl rfl (by decide +kernel) ⟨Nat.le_of_ble_eq_true rfl, Nat.le_of_ble_eq_true rfl⟩) ⟨stW_blind nwX_ok, va_recv hK hP.appL (ci := 7) (q0 := 0) rfl wXg0, stW_passA hN hK hP hD nwX_ok⟩ rfl rfl hl.1 rfl (lv_room (Nat.le_of_ble_eq_true rfl)) dL_law_463 ⟨Nat.le_of_ble_eq_true rfl, Nat.le_of_ble_eq_true rfl⟩) hS hA hP hD (fun r1 σ H locs hq1 hP hD hS => ?_)
  refine lv_aload_n hx hb dL_law_466 rfl (lv_at hl 2 rfl) ?_
  refine lv_aload_n hx hb dL_law_467 rfl (lv_at hl 0 rfl) ?_
  refine lv_iload_n hx hb dL_law_468 rfl (lv_at hl 3 rfl) ?_
  refine lv_iconst (v := (1 : Int32)) hx hb dL_law_469 (by decide) ?_
  refine lv_iadd hx hb dL_law_470 ?_
  refine va_sld hx hb hX hbl hbA hS (l_in (k := 1) hL hi (by decide)) dL_law_471 ?_
  have hP := hP.turn
  have hD := hD.turn
  refine l_calli (va_runV (As := [.int (xs ((nI i) + (1 : Int32)).toNatClampNeg)]) (rest := [.int r1]) ⟨hx, hb, hml, hown, hts⟩ (mtX8_weight l D bd cB (va_A (wM bd cB τ) H.size) τ (xs ((nI i) + (1 : Int32)).toNatClampNeg) (fun (r : Int32) (ρ : Sto) => r = rWeight g (xs ((nI i) + (1 : Int32)).toNatClampNeg) ∧ MI ρ (g)) (mWeight_ok hτ (fun ρ hρ => (⟨rfl, hρ⟩ : rWeight g (xs ((nI i) + (1 : Int32)).toNatClampNeg) = rWeight g (xs ((nI i) + (1 : Int32)).toNatClampNeg) ∧ MI ρ (g))))) (cwV 1 hts gL_law_X8_weight rfl rfl rfl (by decide +kernel) ⟨Nat.le_of_ble_eq_true rfl, Nat.le_of_ble_eq_true rfl⟩) ⟨stW_blind nwM_ok, va_recv hKM hP.appL (ci := 8) (q0 := 0) rfl wMg0, stW_passA hNM hKM hP hD nwM_ok⟩ rfl rfl hl.1 rfl (lv_room (Nat.le_of_ble_eq_true rfl)) dL_law_472 ⟨Nat.le_of_ble_eq_true rfl, Nat.le_of_ble_eq_true rfl⟩) hS hA hP hD (fun r2 τ H locs hq2 hP hD hS => ?_)
  have hP := hP.turn
  have hD := hD.turn
  refine lv_icmp_eq (tgt := 699) hx hb dL_law_475 (by decide) (fun hc => ?_) (fun hc => ?_)
  · exact nx _ _ _ _ _ _ hq1.2 hq2.2 hP hD hS hl
  · exact absurd (hq1.1.trans hq2.1.symm) hc
set_option maxHeartbeats 4000000 in
set_option maxRecDepth 100000 in
theorem lc10 {p : Program} {l : Launch} {e : Env} {s : State} {m : MethodId} {below : List Frame} {meth : Method} {c : Code} {b L : Nat} {xs : Nat → Int32} {D : va_G} {cA cB : Nat → ClassId} {ad bd : Nat → Nat} {i : Nat} (C : LCx p s m c b L xs D cA cB) (hi : i + 4 ≤ L) (nx : LG p l e s m below meth c b D cA cB ad bd 699 i) : LG p l e s m below meth c b D cA cB ad bd 480 i := by
  obtain ⟨hx, hb, hml, hown, hts, hN, hK, hKM, hX, hbl, hL⟩ := C
  have hA : ∀ q : Nat, s.heap.size ≤ q → (fun q : Nat => s.heap.size ≤ q) q := fun _ h => h
  have hbA : ¬ (fun q : Nat => s.heap.size ≤ q) b := Nat.not_le.mpr hbl
  have hNM : ∀ w ∈ nwM, va_Nw w s := fun w h => by cases h
  intro g σ τ H locs ls hσ hτ hP hD hS hl
  refine lv_aload_n hx hb dL_law_480 rfl (lv_at hl 1 rfl) ?_
  refine lv_aload_n hx hb dL_law_481 rfl (lv_at hl 0 rfl) ?_
  refine lv_iload_n hx hb dL_law_482 rfl (lv_at hl 3 rfl) ?_
  refine lv_iconst (v := (1 : Int32)) hx hb dL_law_483 (by decide) ?_
  refine lv_iadd hx hb dL_law_484 ?_
  refine va_sld hx hb hX hbl hbA hS (l_in (k := 1) hL hi (by decide)) dL_law_485 ?_
  refine lv_aload_n hx hb dL_law_486 rfl (lv_at hl 0 rfl) ?_
  refine lv_iload_n hx hb dL_law_487 rfl (lv_at hl 3 rfl) ?_
  refine lv_iconst (v := (2 : Int32)) hx hb dL_law_488 (by decide) ?_
  refine lv_iadd hx hb dL_law_489 ?_
  refine va_sld hx hb hX hbl hbA hS (l_in (k := 2) hL hi (by decide)) dL_law_490 ?_
  refine lv_aload_n hx hb dL_law_491 rfl (lv_at hl 0 rfl) ?_
  refine lv_iload_n hx hb dL_law_492 rfl (lv_at hl 3 rfl) ?_
  refine lv_iconst (v := (3 : Int32)) hx hb dL_law_493 (by decide) ?_
  refine lv_iadd hx hb dL_law_494 ?_
  refine va_sld hx hb hX hbl hbA hS (l_in (k := 3) hL hi (by decide)) dL_law_495 ?_
  refine l_calli (va_runV (As := [.int (xs ((nI i) + (1 : Int32)).toNatClampNeg), .int (xs ((nI i) + (2 : Int32)).toNatClampNeg), .int (xs ((nI i) + (3 : Int32)).toNatClampNeg)]) (rest := []) ⟨hx, hb, hml, hown, hts⟩ (mtX7_score l D ad cA (va_A (wX ad cA σ) H.size) σ (xs ((nI i) + (1 : Int32)).toNatClampNeg) (xs ((nI i) + (2 : Int32)).toNatClampNeg) (xs ((nI i) + (3 : Int32)).toNatClampNeg) (fun (r : Int32) (ρ : Sto) => r = rScore g (xs ((nI i) + (1 : Int32)).toNatClampNeg) (xs ((nI i) + (2 : Int32)).toNatClampNeg) (xs ((nI i) + (3 : Int32)).toNatClampNeg) ∧ XI ρ (gScore g (xs ((nI i) + (1 : Int32)).toNatClampNeg) (xs ((nI i) + (2 : Int32)).toNatClampNeg) (xs ((nI i) + (3 : Int32)).toNatClampNeg))) (xScore_ok hσ (fun ρ hρ => (⟨rfl, hρ⟩ : rScore g (xs ((nI i) + (1 : Int32)).toNatClampNeg) (xs ((nI i) + (2 : Int32)).toNatClampNeg) (xs ((nI i) + (3 : Int32)).toNatClampNeg) = rScore g (xs ((nI i) + (1 : Int32)).toNatClampNeg) (xs ((nI i) + (2 : Int32)).toNatClampNeg) (xs ((nI i) + (3 : Int32)).toNatClampNeg) ∧ XI ρ (gScore g (xs ((nI i) + (1 : Int32)).toNatClampNeg) (xs ((nI i) + (2 : Int32)).toNatClampNeg) (xs ((nI i) + (3 : Int32)).toNatClampNeg)))))) (cwV 3 hts gL_law_X7_score rfl rfl rfl (by decide +kernel) ⟨Nat.le_of_ble_eq_true rfl, Nat.le_of_ble_eq_true rfl⟩) ⟨stW_blind nwX_ok, va_recv hK hP.appL (ci := 7) (q0 := 0) rfl wXg0, stW_passA hN hK hP hD nwX_ok⟩ rfl rfl hl.1 rfl (lv_room (Nat.le_of_ble_eq_true rfl)) dL_law_496 ⟨Nat.le_of_ble_eq_true rfl, Nat.le_of_ble_eq_true rfl⟩) hS hA hP hD (fun r1 σ H locs hq1 hP hD hS => ?_)
  refine lv_aload_n hx hb dL_law_499 rfl (lv_at hl 2 rfl) ?_
  refine lv_aload_n hx hb dL_law_500 rfl (lv_at hl 0 rfl) ?_
  refine lv_iload_n hx hb dL_law_501 rfl (lv_at hl 3 rfl) ?_
  refine lv_iconst (v := (1 : Int32)) hx hb dL_law_502 (by decide) ?_
  refine lv_iadd hx hb dL_law_503 ?_
  refine va_sld hx hb hX hbl hbA hS (l_in (k := 1) hL hi (by decide)) dL_law_504 ?_
  refine lv_aload_n hx hb dL_law_505 rfl (lv_at hl 0 rfl) ?_
  refine lv_iload_n hx hb dL_law_506 rfl (lv_at hl 3 rfl) ?_
  refine lv_iconst (v := (2 : Int32)) hx hb dL_law_507 (by decide) ?_
  refine lv_iadd hx hb dL_law_508 ?_
  refine va_sld hx hb hX hbl hbA hS (l_in (k := 2) hL hi (by decide)) dL_law_509 ?_
  refine lv_aload_n hx hb dL_law_510 rfl (lv_at hl 0 rfl) ?_
  refine lv_iload_n hx hb dL_law_511 rfl (lv_at hl 3 rfl) ?_
  refine lv_iconst (v := (3 : Int32)) hx hb dL_law_512 (by decide) ?_
  refine lv_iadd hx hb dL_law_513 ?_
  refine va_sld hx hb hX hbl hbA hS (l_in (k := 3) hL hi (by decide)) dL_law_514 ?_
  have hP := hP.turn
  have hD := hD.turn
  refine l_calli (va_runV (As := [.int (xs ((nI i) + (1 : Int32)).toNatClampNeg), .int (xs ((nI i) + (2 : Int32)).toNatClampNeg), .int (xs ((nI i) + (3 : Int32)).toNatClampNeg)]) (rest := [.int r1]) ⟨hx, hb, hml, hown, hts⟩ (mtX8_score l D bd cB (va_A (wM bd cB τ) H.size) τ (xs ((nI i) + (1 : Int32)).toNatClampNeg) (xs ((nI i) + (2 : Int32)).toNatClampNeg) (xs ((nI i) + (3 : Int32)).toNatClampNeg) (fun (r : Int32) (ρ : Sto) => r = rScore g (xs ((nI i) + (1 : Int32)).toNatClampNeg) (xs ((nI i) + (2 : Int32)).toNatClampNeg) (xs ((nI i) + (3 : Int32)).toNatClampNeg) ∧ MI ρ (gScore g (xs ((nI i) + (1 : Int32)).toNatClampNeg) (xs ((nI i) + (2 : Int32)).toNatClampNeg) (xs ((nI i) + (3 : Int32)).toNatClampNeg))) (mScore_ok hτ (fun ρ hρ => (⟨rfl, hρ⟩ : rScore g (xs ((nI i) + (1 : Int32)).toNatClampNeg) (xs ((nI i) + (2 : Int32)).toNatClampNeg) (xs ((nI i) + (3 : Int32)).toNatClampNeg) = rScore g (xs ((nI i) + (1 : Int32)).toNatClampNeg) (xs ((nI i) + (2 : Int32)).toNatClampNeg) (xs ((nI i) + (3 : Int32)).toNatClampNeg) ∧ MI ρ (gScore g (xs ((nI i) + (1 : Int32)).toNatClampNeg) (xs ((nI i) + (2 : Int32)).toNatClampNeg) (xs ((nI i) + (3 : Int32)).toNatClampNeg)))))) (cwV 3 hts gL_law_X8_score rfl rfl rfl (by decide +kernel) ⟨Nat.le_of_ble_eq_true rfl, Nat.le_of_ble_eq_true rfl⟩) ⟨stW_blind nwM_ok, va_recv hKM hP.appL (ci := 8) (q0 := 0) rfl wMg0, stW_passA hNM hKM hP hD nwM_ok⟩ rfl rfl hl.1 rfl (lv_room (Nat.le_of_ble_eq_true rfl)) dL_law_515 ⟨Nat.le_of_ble_eq_true rfl, Nat.le_of_ble_eq_true rfl⟩) hS hA hP hD (fun r2 τ H locs hq2 hP hD hS => ?_)
  have hP := hP.turn
  have hD := hD.turn
  refine lv_icmp_eq (tgt := 699) hx hb dL_law_518 (by decide) (fun hc => ?_) (fun hc => ?_)
  · exact nx _ _ _ _ _ _ hq1.2 hq2.2 hP hD hS hl
  · exact absurd (hq1.1.trans hq2.1.symm) hc
set_option maxHeartbeats 4000000 in
set_option maxRecDepth 100000 in
theorem lc11 {p : Program} {l : Launch} {e : Env} {s : State} {m : MethodId} {below : List Frame} {meth : Method} {c : Code} {b L : Nat} {xs : Nat → Int32} {D : va_G} {cA cB : Nat → ClassId} {ad bd : Nat → Nat} {i : Nat} (C : LCx p s m c b L xs D cA cB) (hi : i + 4 ≤ L) (nx : LG p l e s m below meth c b D cA cB ad bd 699 i) : LG p l e s m below meth c b D cA cB ad bd 523 i := by
  obtain ⟨hx, hb, hml, hown, hts, hN, hK, hKM, hX, hbl, hL⟩ := C
  have hA : ∀ q : Nat, s.heap.size ≤ q → (fun q : Nat => s.heap.size ≤ q) q := fun _ h => h
  have hbA : ¬ (fun q : Nat => s.heap.size ≤ q) b := Nat.not_le.mpr hbl
  have hNM : ∀ w ∈ nwM, va_Nw w s := fun w h => by cases h
  intro g σ τ H locs ls hσ hτ hP hD hS hl
  refine lv_aload_n hx hb dL_law_523 rfl (lv_at hl 1 rfl) ?_
  refine l_calll (va_runV (As := []) (rest := []) ⟨hx, hb, hml, hown, hts⟩ (mtX7_top l D ad cA (va_A (wX ad cA σ) H.size) σ  (fun (r : Int64) (ρ : Sto) => r = gbt g ∧ XI ρ (g)) (xTop_ok hσ (⟨rfl, hσ⟩ : gbt g = gbt g ∧ XI σ (g)))) (cwV 0 hts gL_law_X7_top rfl rfl rfl (by decide +kernel) ⟨Nat.le_of_ble_eq_true rfl, Nat.le_of_ble_eq_true rfl⟩) ⟨stW_blind nwX_ok, va_recv hK hP.appL (ci := 7) (q0 := 0) rfl wXg0, stW_passA hN hK hP hD nwX_ok⟩ rfl rfl hl.1 rfl (lv_room (Nat.le_of_ble_eq_true rfl)) dL_law_524 ⟨Nat.le_of_ble_eq_true rfl, Nat.le_of_ble_eq_true rfl⟩) hS hA hP hD (fun r1 σ H locs hq1 hP hD hS => ?_)
  refine lv_aload_n hx hb dL_law_527 rfl (lv_at hl 2 rfl) ?_
  have hP := hP.turn
  have hD := hD.turn
  refine l_calll (va_runV (As := []) (rest := [.long r1]) ⟨hx, hb, hml, hown, hts⟩ (mtX8_top l D bd cB (va_A (wM bd cB τ) H.size) τ  (fun (r : Int64) (ρ : Sto) => r = gbt g ∧ MI ρ (g)) (mTop_ok hτ (⟨rfl, hτ⟩ : gbt g = gbt g ∧ MI τ (g)))) (cwV 0 hts gL_law_X8_top rfl rfl rfl (by decide +kernel) ⟨Nat.le_of_ble_eq_true rfl, Nat.le_of_ble_eq_true rfl⟩) ⟨stW_blind nwM_ok, va_recv hKM hP.appL (ci := 8) (q0 := 0) rfl wMg0, stW_passA hNM hKM hP hD nwM_ok⟩ rfl rfl hl.1 rfl (lv_room (Nat.le_of_ble_eq_true rfl)) dL_law_528 ⟨Nat.le_of_ble_eq_true rfl, Nat.le_of_ble_eq_true rfl⟩) hS hA hP hD (fun r2 τ H locs hq2 hP hD hS => ?_)
  refine W.lcmp hx hb dL_law_531 ?_
  have hP := hP.turn
  have hD := hD.turn
  refine lv_if_eq (tgt := 699) hx hb dL_law_532 (by decide) (fun hc => ?_) (fun hc => ?_)
  · exact nx _ _ _ _ _ _ hq1.2 hq2.2 hP hD hS hl
  · exact absurd ((lg_cmp_eq _ _).mpr (hq1.1.trans hq2.1.symm)) hc
set_option maxHeartbeats 4000000 in
set_option maxRecDepth 100000 in
theorem lc12 {p : Program} {l : Launch} {e : Env} {s : State} {m : MethodId} {below : List Frame} {meth : Method} {c : Code} {b L : Nat} {xs : Nat → Int32} {D : va_G} {cA cB : Nat → ClassId} {ad bd : Nat → Nat} {i : Nat} (C : LCx p s m c b L xs D cA cB) (hi : i + 4 ≤ L) (nx : LG p l e s m below meth c b D cA cB ad bd 699 i) : LG p l e s m below meth c b D cA cB ad bd 537 i := by
  obtain ⟨hx, hb, hml, hown, hts, hN, hK, hKM, hX, hbl, hL⟩ := C
  have hA : ∀ q : Nat, s.heap.size ≤ q → (fun q : Nat => s.heap.size ≤ q) q := fun _ h => h
  have hbA : ¬ (fun q : Nat => s.heap.size ≤ q) b := Nat.not_le.mpr hbl
  have hNM : ∀ w ∈ nwM, va_Nw w s := fun w h => by cases h
  intro g σ τ H locs ls hσ hτ hP hD hS hl
  refine lv_aload_n hx hb dL_law_537 rfl (lv_at hl 1 rfl) ?_
  refine l_calll (va_runV (As := []) (rest := []) ⟨hx, hb, hml, hown, hts⟩ (mtX7_bottom l D ad cA (va_A (wX ad cA σ) H.size) σ  (fun (r : Int64) (ρ : Sto) => r = gbb g ∧ XI ρ (g)) (xBottom_ok hσ (⟨rfl, hσ⟩ : gbb g = gbb g ∧ XI σ (g)))) (cwV 0 hts gL_law_X7_bottom rfl rfl rfl (by decide +kernel) ⟨Nat.le_of_ble_eq_true rfl, Nat.le_of_ble_eq_true rfl⟩) ⟨stW_blind nwX_ok, va_recv hK hP.appL (ci := 7) (q0 := 0) rfl wXg0, stW_passA hN hK hP hD nwX_ok⟩ rfl rfl hl.1 rfl (lv_room (Nat.le_of_ble_eq_true rfl)) dL_law_538 ⟨Nat.le_of_ble_eq_true rfl, Nat.le_of_ble_eq_true rfl⟩) hS hA hP hD (fun r1 σ H locs hq1 hP hD hS => ?_)
  refine lv_aload_n hx hb dL_law_541 rfl (lv_at hl 2 rfl) ?_
  have hP := hP.turn
  have hD := hD.turn
  refine l_calll (va_runV (As := []) (rest := [.long r1]) ⟨hx, hb, hml, hown, hts⟩ (mtX8_bottom l D bd cB (va_A (wM bd cB τ) H.size) τ  (fun (r : Int64) (ρ : Sto) => r = gbb g ∧ MI ρ (g)) (mBottom_ok hτ (⟨rfl, hτ⟩ : gbb g = gbb g ∧ MI τ (g)))) (cwV 0 hts gL_law_X8_bottom rfl rfl rfl (by decide +kernel) ⟨Nat.le_of_ble_eq_true rfl, Nat.le_of_ble_eq_true rfl⟩) ⟨stW_blind nwM_ok, va_recv hKM hP.appL (ci := 8) (q0 := 0) rfl wMg0, stW_passA hNM hKM hP hD nwM_ok⟩ rfl rfl hl.1 rfl (lv_room (Nat.le_of_ble_eq_true rfl)) dL_law_542 ⟨Nat.le_of_ble_eq_true rfl, Nat.le_of_ble_eq_true rfl⟩) hS hA hP hD (fun r2 τ H locs hq2 hP hD hS => ?_)
  refine W.lcmp hx hb dL_law_545 ?_
  have hP := hP.turn
  have hD := hD.turn
  refine lv_if_eq (tgt := 699) hx hb dL_law_546 (by decide) (fun hc => ?_) (fun hc => ?_)
  · exact nx _ _ _ _ _ _ hq1.2 hq2.2 hP hD hS hl
  · exact absurd ((lg_cmp_eq _ _).mpr (hq1.1.trans hq2.1.symm)) hc
set_option maxHeartbeats 4000000 in
set_option maxRecDepth 100000 in
theorem lc13 {p : Program} {l : Launch} {e : Env} {s : State} {m : MethodId} {below : List Frame} {meth : Method} {c : Code} {b L : Nat} {xs : Nat → Int32} {D : va_G} {cA cB : Nat → ClassId} {ad bd : Nat → Nat} {i : Nat} (C : LCx p s m c b L xs D cA cB) (hi : i + 4 ≤ L) (nx : LG p l e s m below meth c b D cA cB ad bd 699 i) : LG p l e s m below meth c b D cA cB ad bd 551 i := by
  obtain ⟨hx, hb, hml, hown, hts, hN, hK, hKM, hX, hbl, hL⟩ := C
  have hA : ∀ q : Nat, s.heap.size ≤ q → (fun q : Nat => s.heap.size ≤ q) q := fun _ h => h
  have hbA : ¬ (fun q : Nat => s.heap.size ≤ q) b := Nat.not_le.mpr hbl
  have hNM : ∀ w ∈ nwM, va_Nw w s := fun w h => by cases h
  intro g σ τ H locs ls hσ hτ hP hD hS hl
  refine lv_aload_n hx hb dL_law_551 rfl (lv_at hl 1 rfl) ?_
  refine lv_aload_n hx hb dL_law_552 rfl (lv_at hl 0 rfl) ?_
  refine lv_iload_n hx hb dL_law_553 rfl (lv_at hl 3 rfl) ?_
  refine lv_iconst (v := (1 : Int32)) hx hb dL_law_554 (by decide) ?_
  refine lv_iadd hx hb dL_law_555 ?_
  refine va_sld hx hb hX hbl hbA hS (l_in (k := 1) hL hi (by decide)) dL_law_556 ?_
  refine l_calli (va_runV (As := [.int (xs ((nI i) + (1 : Int32)).toNatClampNeg)]) (rest := []) ⟨hx, hb, hml, hown, hts⟩ (mtX7_ranked l D ad cA (va_A (wX ad cA σ) H.size) σ (xs ((nI i) + (1 : Int32)).toNatClampNeg) (fun (r : Int32) (ρ : Sto) => r = rRanked g (xs ((nI i) + (1 : Int32)).toNatClampNeg) ∧ XI ρ (g)) (xRanked_ok hσ (fun ρ hρ => (⟨rfl, hρ⟩ : rRanked g (xs ((nI i) + (1 : Int32)).toNatClampNeg) = rRanked g (xs ((nI i) + (1 : Int32)).toNatClampNeg) ∧ XI ρ (g))))) (cwV 1 hts gL_law_X7_ranked rfl rfl rfl (by decide +kernel) ⟨Nat.le_of_ble_eq_true rfl, Nat.le_of_ble_eq_true rfl⟩) ⟨stW_blind nwX_ok, va_recv hK hP.appL (ci := 7) (q0 := 0) rfl wXg0, stW_passA hN hK hP hD nwX_ok⟩ rfl rfl hl.1 rfl (lv_room (Nat.le_of_ble_eq_true rfl)) dL_law_557 ⟨Nat.le_of_ble_eq_true rfl, Nat.le_of_ble_eq_true rfl⟩) hS hA hP hD (fun r1 σ H locs hq1 hP hD hS => ?_)
  refine lv_aload_n hx hb dL_law_560 rfl (lv_at hl 2 rfl) ?_
  refine lv_aload_n hx hb dL_law_561 rfl (lv_at hl 0 rfl) ?_
  refine lv_iload_n hx hb dL_law_562 rfl (lv_at hl 3 rfl) ?_
  refine lv_iconst (v := (1 : Int32)) hx hb dL_law_563 (by decide) ?_
  refine lv_iadd hx hb dL_law_564 ?_
  refine va_sld hx hb hX hbl hbA hS (l_in (k := 1) hL hi (by decide)) dL_law_565 ?_
  have hP := hP.turn
  have hD := hD.turn
  refine l_calli (va_runV (As := [.int (xs ((nI i) + (1 : Int32)).toNatClampNeg)]) (rest := [.int r1]) ⟨hx, hb, hml, hown, hts⟩ (mtX8_ranked l D bd cB (va_A (wM bd cB τ) H.size) τ (xs ((nI i) + (1 : Int32)).toNatClampNeg) (fun (r : Int32) (ρ : Sto) => r = rRanked g (xs ((nI i) + (1 : Int32)).toNatClampNeg) ∧ MI ρ (g)) (mRanked_ok hτ (fun ρ hρ => (⟨rfl, hρ⟩ : rRanked g (xs ((nI i) + (1 : Int32)).toNatClampNeg) = rRanked g (xs ((nI i) + (1 : Int32)).toNatClampNeg) ∧ MI ρ (g))))) (cwV 1 hts gL_law_X8_ranked rfl rfl rfl (by decide +kernel) ⟨Nat.le_of_ble_eq_true rfl, Nat.le_of_ble_eq_true rfl⟩) ⟨stW_blind nwM_ok, va_recv hKM hP.appL (ci := 8) (q0 := 0) rfl wMg0, stW_passA hNM hKM hP hD nwM_ok⟩ rfl rfl hl.1 rfl (lv_room (Nat.le_of_ble_eq_true rfl)) dL_law_566 ⟨Nat.le_of_ble_eq_true rfl, Nat.le_of_ble_eq_true rfl⟩) hS hA hP hD (fun r2 τ H locs hq2 hP hD hS => ?_)
  have hP := hP.turn
  have hD := hD.turn
  refine lv_icmp_eq (tgt := 699) hx hb dL_law_569 (by decide) (fun hc => ?_) (fun hc => ?_)
  · exact nx _ _ _ _ _ _ hq1.2 hq2.2 hP hD hS hl
  · exact absurd (hq1.1.trans hq2.1.symm) hc
