/-! the law: its calls -/
set_option maxHeartbeats 4000000 in
set_option maxRecDepth 100000 in
theorem lc14 {p : Program} {l : Launch} {e : Env} {s : State} {m : MethodId} {below : List Frame} {meth : Method} {c : Code} {b L : Nat} {xs : Nat → Int32} {D : va_G} {cA cB : Nat → ClassId} {ad bd : Nat → Nat} {i : Nat} (C : LCx p s m c b L xs D cA cB) (hi : i + 4 ≤ L) (nx : LG p l e s m below meth c b D cA cB ad bd 699 i) : LG p l e s m below meth c b D cA cB ad bd 574 i := by
  obtain ⟨hx, hb, hml, hown, hts, hN, hK, hKM, hX, hbl, hL⟩ := C
  have hA : ∀ q : Nat, s.heap.size ≤ q → (fun q : Nat => s.heap.size ≤ q) q := fun _ h => h
  have hbA : ¬ (fun q : Nat => s.heap.size ≤ q) b := Nat.not_le.mpr hbl
  have hNM : ∀ w ∈ nwM, va_Nw w s := fun w h => by cases h
  intro g σ τ H locs ls hσ hτ hP hD hS hl
  refine lv_aload_n hx hb dL_law_574 rfl (lv_at hl 1 rfl) ?_
  refine lv_aload_n hx hb dL_law_575 rfl (lv_at hl 0 rfl) ?_
  refine lv_iload_n hx hb dL_law_576 rfl (lv_at hl 3 rfl) ?_
  refine lv_iconst (v := (1 : Int32)) hx hb dL_law_577 (by decide) ?_
  refine lv_iadd hx hb dL_law_578 ?_
  refine va_sld hx hb hX hbl hbA hS (l_in (k := 1) hL hi (by decide)) dL_law_579 ?_
  refine lv_aload_n hx hb dL_law_580 rfl (lv_at hl 0 rfl) ?_
  refine lv_iload_n hx hb dL_law_581 rfl (lv_at hl 3 rfl) ?_
  refine lv_iconst (v := (2 : Int32)) hx hb dL_law_582 (by decide) ?_
  refine lv_iadd hx hb dL_law_583 ?_
  refine va_sld hx hb hX hbl hbA hS (l_in (k := 2) hL hi (by decide)) dL_law_584 ?_
  refine l_calli (va_runV (As := [.int (xs ((nI i) + (1 : Int32)).toNatClampNeg), .int (xs ((nI i) + (2 : Int32)).toNatClampNeg)]) (rest := []) ⟨hx, hb, hml, hown, hts⟩ (mtX7_place l D ad cA (va_A (wX ad cA σ) H.size) σ (xs ((nI i) + (1 : Int32)).toNatClampNeg) (xs ((nI i) + (2 : Int32)).toNatClampNeg) (fun (r : Int32) (ρ : Sto) => r = rPlace g (xs ((nI i) + (1 : Int32)).toNatClampNeg) (xs ((nI i) + (2 : Int32)).toNatClampNeg) ∧ XI ρ (g)) (xPlace_ok hσ (fun ρ hρ => (⟨rfl, hρ⟩ : rPlace g (xs ((nI i) + (1 : Int32)).toNatClampNeg) (xs ((nI i) + (2 : Int32)).toNatClampNeg) = rPlace g (xs ((nI i) + (1 : Int32)).toNatClampNeg) (xs ((nI i) + (2 : Int32)).toNatClampNeg) ∧ XI ρ (g))))) (cwV 2 hts gL_law_X7_place rfl rfl rfl (by decide +kernel) ⟨Nat.le_of_ble_eq_true rfl, Nat.le_of_ble_eq_true rfl⟩) ⟨stW_blind nwX_ok, va_recv hK hP.appL (ci := 7) (q0 := 0) rfl wXg0, stW_passA hN hK hP hD nwX_ok⟩ rfl rfl hl.1 rfl (lv_room (Nat.le_of_ble_eq_true rfl)) dL_law_585 ⟨Nat.le_of_ble_eq_true rfl, Nat.le_of_ble_eq_true rfl⟩) hS hA hP hD (fun r1 σ H locs hq1 hP hD hS => ?_)
  refine lv_aload_n hx hb dL_law_588 rfl (lv_at hl 2 rfl) ?_
  refine lv_aload_n hx hb dL_law_589 rfl (lv_at hl 0 rfl) ?_
  refine lv_iload_n hx hb dL_law_590 rfl (lv_at hl 3 rfl) ?_
  refine lv_iconst (v := (1 : Int32)) hx hb dL_law_591 (by decide) ?_
  refine lv_iadd hx hb dL_law_592 ?_
  refine va_sld hx hb hX hbl hbA hS (l_in (k := 1) hL hi (by decide)) dL_law_593 ?_
  refine lv_aload_n hx hb dL_law_594 rfl (lv_at hl 0 rfl) ?_
  refine lv_iload_n hx hb dL_law_595 rfl (lv_at hl 3 rfl) ?_
  refine lv_iconst (v := (2 : Int32)) hx hb dL_law_596 (by decide) ?_
  refine lv_iadd hx hb dL_law_597 ?_
  refine va_sld hx hb hX hbl hbA hS (l_in (k := 2) hL hi (by decide)) dL_law_598 ?_
  have hP := hP.turn
  have hD := hD.turn
  refine l_calli (va_runV (As := [.int (xs ((nI i) + (1 : Int32)).toNatClampNeg), .int (xs ((nI i) + (2 : Int32)).toNatClampNeg)]) (rest := [.int r1]) ⟨hx, hb, hml, hown, hts⟩ (mtX8_place l D bd cB (va_A (wM bd cB τ) H.size) τ (xs ((nI i) + (1 : Int32)).toNatClampNeg) (xs ((nI i) + (2 : Int32)).toNatClampNeg) (fun (r : Int32) (ρ : Sto) => r = rPlace g (xs ((nI i) + (1 : Int32)).toNatClampNeg) (xs ((nI i) + (2 : Int32)).toNatClampNeg) ∧ MI ρ (g)) (mPlace_ok hτ (fun ρ hρ => (⟨rfl, hρ⟩ : rPlace g (xs ((nI i) + (1 : Int32)).toNatClampNeg) (xs ((nI i) + (2 : Int32)).toNatClampNeg) = rPlace g (xs ((nI i) + (1 : Int32)).toNatClampNeg) (xs ((nI i) + (2 : Int32)).toNatClampNeg) ∧ MI ρ (g))))) (cwV 2 hts gL_law_X8_place rfl rfl rfl (by decide +kernel) ⟨Nat.le_of_ble_eq_true rfl, Nat.le_of_ble_eq_true rfl⟩) ⟨stW_blind nwM_ok, va_recv hKM hP.appL (ci := 8) (q0 := 0) rfl wMg0, stW_passA hNM hKM hP hD nwM_ok⟩ rfl rfl hl.1 rfl (lv_room (Nat.le_of_ble_eq_true rfl)) dL_law_599 ⟨Nat.le_of_ble_eq_true rfl, Nat.le_of_ble_eq_true rfl⟩) hS hA hP hD (fun r2 τ H locs hq2 hP hD hS => ?_)
  have hP := hP.turn
  have hD := hD.turn
  refine lv_icmp_eq (tgt := 699) hx hb dL_law_602 (by decide) (fun hc => ?_) (fun hc => ?_)
  · exact nx _ _ _ _ _ _ hq1.2 hq2.2 hP hD hS hl
  · exact absurd (hq1.1.trans hq2.1.symm) hc
set_option maxHeartbeats 4000000 in
set_option maxRecDepth 100000 in
theorem lc15 {p : Program} {l : Launch} {e : Env} {s : State} {m : MethodId} {below : List Frame} {meth : Method} {c : Code} {b L : Nat} {xs : Nat → Int32} {D : va_G} {cA cB : Nat → ClassId} {ad bd : Nat → Nat} {i : Nat} (C : LCx p s m c b L xs D cA cB) (hi : i + 4 ≤ L) (nx : LG p l e s m below meth c b D cA cB ad bd 699 i) : LG p l e s m below meth c b D cA cB ad bd 607 i := by
  obtain ⟨hx, hb, hml, hown, hts, hN, hK, hKM, hX, hbl, hL⟩ := C
  have hA : ∀ q : Nat, s.heap.size ≤ q → (fun q : Nat => s.heap.size ≤ q) q := fun _ h => h
  have hbA : ¬ (fun q : Nat => s.heap.size ≤ q) b := Nat.not_le.mpr hbl
  have hNM : ∀ w ∈ nwM, va_Nw w s := fun w h => by cases h
  intro g σ τ H locs ls hσ hτ hP hD hS hl
  refine lv_aload_n hx hb dL_law_607 rfl (lv_at hl 1 rfl) ?_
  refine lv_aload_n hx hb dL_law_608 rfl (lv_at hl 0 rfl) ?_
  refine lv_iload_n hx hb dL_law_609 rfl (lv_at hl 3 rfl) ?_
  refine lv_iconst (v := (1 : Int32)) hx hb dL_law_610 (by decide) ?_
  refine lv_iadd hx hb dL_law_611 ?_
  refine va_sld hx hb hX hbl hbA hS (l_in (k := 1) hL hi (by decide)) dL_law_612 ?_
  refine l_calli (va_runV (As := [.int (xs ((nI i) + (1 : Int32)).toNatClampNeg)]) (rest := []) ⟨hx, hb, hml, hown, hts⟩ (mtX7_among l D ad cA (va_A (wX ad cA σ) H.size) σ (xs ((nI i) + (1 : Int32)).toNatClampNeg) (fun (r : Int32) (ρ : Sto) => r = rAmong g (xs ((nI i) + (1 : Int32)).toNatClampNeg) ∧ XI ρ (g)) (xAmong_ok hσ (fun ρ hρ => (⟨rfl, hρ⟩ : rAmong g (xs ((nI i) + (1 : Int32)).toNatClampNeg) = rAmong g (xs ((nI i) + (1 : Int32)).toNatClampNeg) ∧ XI ρ (g))))) (cwV 1 hts gL_law_X7_among rfl rfl rfl (by decide +kernel) ⟨Nat.le_of_ble_eq_true rfl, Nat.le_of_ble_eq_true rfl⟩) ⟨stW_blind nwX_ok, va_recv hK hP.appL (ci := 7) (q0 := 0) rfl wXg0, stW_passA hN hK hP hD nwX_ok⟩ rfl rfl hl.1 rfl (lv_room (Nat.le_of_ble_eq_true rfl)) dL_law_613 ⟨Nat.le_of_ble_eq_true rfl, Nat.le_of_ble_eq_true rfl⟩) hS hA hP hD (fun r1 σ H locs hq1 hP hD hS => ?_)
  refine lv_aload_n hx hb dL_law_616 rfl (lv_at hl 2 rfl) ?_
  refine lv_aload_n hx hb dL_law_617 rfl (lv_at hl 0 rfl) ?_
  refine lv_iload_n hx hb dL_law_618 rfl (lv_at hl 3 rfl) ?_
  refine lv_iconst (v := (1 : Int32)) hx hb dL_law_619 (by decide) ?_
  refine lv_iadd hx hb dL_law_620 ?_
  refine va_sld hx hb hX hbl hbA hS (l_in (k := 1) hL hi (by decide)) dL_law_621 ?_
  have hP := hP.turn
  have hD := hD.turn
  refine l_calli (va_runV (As := [.int (xs ((nI i) + (1 : Int32)).toNatClampNeg)]) (rest := [.int r1]) ⟨hx, hb, hml, hown, hts⟩ (mtX8_among l D bd cB (va_A (wM bd cB τ) H.size) τ (xs ((nI i) + (1 : Int32)).toNatClampNeg) (fun (r : Int32) (ρ : Sto) => r = rAmong g (xs ((nI i) + (1 : Int32)).toNatClampNeg) ∧ MI ρ (g)) (mAmong_ok hτ (fun ρ hρ => (⟨rfl, hρ⟩ : rAmong g (xs ((nI i) + (1 : Int32)).toNatClampNeg) = rAmong g (xs ((nI i) + (1 : Int32)).toNatClampNeg) ∧ MI ρ (g))))) (cwV 1 hts gL_law_X8_among rfl rfl rfl (by decide +kernel) ⟨Nat.le_of_ble_eq_true rfl, Nat.le_of_ble_eq_true rfl⟩) ⟨stW_blind nwM_ok, va_recv hKM hP.appL (ci := 8) (q0 := 0) rfl wMg0, stW_passA hNM hKM hP hD nwM_ok⟩ rfl rfl hl.1 rfl (lv_room (Nat.le_of_ble_eq_true rfl)) dL_law_622 ⟨Nat.le_of_ble_eq_true rfl, Nat.le_of_ble_eq_true rfl⟩) hS hA hP hD (fun r2 τ H locs hq2 hP hD hS => ?_)
  have hP := hP.turn
  have hD := hD.turn
  refine lv_icmp_eq (tgt := 699) hx hb dL_law_625 (by decide) (fun hc => ?_) (fun hc => ?_)
  · exact nx _ _ _ _ _ _ hq1.2 hq2.2 hP hD hS hl
  · exact absurd (hq1.1.trans hq2.1.symm) hc
set_option maxHeartbeats 4000000 in
set_option maxRecDepth 100000 in
theorem lc16 {p : Program} {l : Launch} {e : Env} {s : State} {m : MethodId} {below : List Frame} {meth : Method} {c : Code} {b L : Nat} {xs : Nat → Int32} {D : va_G} {cA cB : Nat → ClassId} {ad bd : Nat → Nat} {i : Nat} (C : LCx p s m c b L xs D cA cB) (hi : i + 4 ≤ L) (nx : LG p l e s m below meth c b D cA cB ad bd 699 i) : LG p l e s m below meth c b D cA cB ad bd 630 i := by
  obtain ⟨hx, hb, hml, hown, hts, hN, hK, hKM, hX, hbl, hL⟩ := C
  have hA : ∀ q : Nat, s.heap.size ≤ q → (fun q : Nat => s.heap.size ≤ q) q := fun _ h => h
  have hbA : ¬ (fun q : Nat => s.heap.size ≤ q) b := Nat.not_le.mpr hbl
  have hNM : ∀ w ∈ nwM, va_Nw w s := fun w h => by cases h
  intro g σ τ H locs ls hσ hτ hP hD hS hl
  refine lv_aload_n hx hb dL_law_630 rfl (lv_at hl 1 rfl) ?_
  refine l_calli (va_runV (As := []) (rest := []) ⟨hx, hb, hml, hown, hts⟩ (mtX7_share l D ad cA (va_A (wX ad cA σ) H.size) σ  (fun (r : Int32) (ρ : Sto) => r = rShare g ∧ XI ρ (gShare g)) (xShare_ok hσ (fun ρ hρ => (⟨rfl, hρ⟩ : rShare g = rShare g ∧ XI ρ (gShare g))))) (cwV 0 hts gL_law_X7_share rfl rfl rfl (by decide +kernel) ⟨Nat.le_of_ble_eq_true rfl, Nat.le_of_ble_eq_true rfl⟩) ⟨stW_blind nwX_ok, va_recv hK hP.appL (ci := 7) (q0 := 0) rfl wXg0, stW_passA hN hK hP hD nwX_ok⟩ rfl rfl hl.1 rfl (lv_room (Nat.le_of_ble_eq_true rfl)) dL_law_631 ⟨Nat.le_of_ble_eq_true rfl, Nat.le_of_ble_eq_true rfl⟩) hS hA hP hD (fun r1 σ H locs hq1 hP hD hS => ?_)
  refine lv_aload_n hx hb dL_law_634 rfl (lv_at hl 2 rfl) ?_
  have hP := hP.turn
  have hD := hD.turn
  refine l_calli (va_runV (As := []) (rest := [.int r1]) ⟨hx, hb, hml, hown, hts⟩ (mtX8_share l D bd cB (va_A (wM bd cB τ) H.size) τ  (fun (r : Int32) (ρ : Sto) => r = rShare g ∧ MI ρ (gShare g)) (mShare_ok hτ (fun ρ hρ => (⟨rfl, hρ⟩ : rShare g = rShare g ∧ MI ρ (gShare g))))) (cwV 0 hts gL_law_X8_share rfl rfl rfl (by decide +kernel) ⟨Nat.le_of_ble_eq_true rfl, Nat.le_of_ble_eq_true rfl⟩) ⟨stW_blind nwM_ok, va_recv hKM hP.appL (ci := 8) (q0 := 0) rfl wMg0, stW_passA hNM hKM hP hD nwM_ok⟩ rfl rfl hl.1 rfl (lv_room (Nat.le_of_ble_eq_true rfl)) dL_law_635 ⟨Nat.le_of_ble_eq_true rfl, Nat.le_of_ble_eq_true rfl⟩) hS hA hP hD (fun r2 τ H locs hq2 hP hD hS => ?_)
  have hP := hP.turn
  have hD := hD.turn
  refine lv_icmp_eq (tgt := 699) hx hb dL_law_638 (by decide) (fun hc => ?_) (fun hc => ?_)
  · exact nx _ _ _ _ _ _ hq1.2 hq2.2 hP hD hS hl
  · exact absurd (hq1.1.trans hq2.1.symm) hc
set_option maxHeartbeats 4000000 in
set_option maxRecDepth 100000 in
theorem lc17 {p : Program} {l : Launch} {e : Env} {s : State} {m : MethodId} {below : List Frame} {meth : Method} {c : Code} {b L : Nat} {xs : Nat → Int32} {D : va_G} {cA cB : Nat → ClassId} {ad bd : Nat → Nat} {i : Nat} (C : LCx p s m c b L xs D cA cB) (hi : i + 4 ≤ L) (nx : LG p l e s m below meth c b D cA cB ad bd 699 i) : LG p l e s m below meth c b D cA cB ad bd 643 i := by
  obtain ⟨hx, hb, hml, hown, hts, hN, hK, hKM, hX, hbl, hL⟩ := C
  have hA : ∀ q : Nat, s.heap.size ≤ q → (fun q : Nat => s.heap.size ≤ q) q := fun _ h => h
  have hbA : ¬ (fun q : Nat => s.heap.size ≤ q) b := Nat.not_le.mpr hbl
  have hNM : ∀ w ∈ nwM, va_Nw w s := fun w h => by cases h
  intro g σ τ H locs ls hσ hτ hP hD hS hl
  refine lv_aload_n hx hb dL_law_643 rfl (lv_at hl 1 rfl) ?_
  refine lv_aload_n hx hb dL_law_644 rfl (lv_at hl 0 rfl) ?_
  refine lv_iload_n hx hb dL_law_645 rfl (lv_at hl 3 rfl) ?_
  refine lv_iconst (v := (1 : Int32)) hx hb dL_law_646 (by decide) ?_
  refine lv_iadd hx hb dL_law_647 ?_
  refine va_sld hx hb hX hbl hbA hS (l_in (k := 1) hL hi (by decide)) dL_law_648 ?_
  refine l_calli (va_runV (As := [.int (xs ((nI i) + (1 : Int32)).toNatClampNeg)]) (rest := []) ⟨hx, hb, hml, hown, hts⟩ (mtX7_sample l D ad cA (va_A (wX ad cA σ) H.size) σ (xs ((nI i) + (1 : Int32)).toNatClampNeg) (fun (r : Int32) (ρ : Sto) => r = rShare g ∧ XI ρ (gSample g (xs ((nI i) + (1 : Int32)).toNatClampNeg))) (xSample_ok hσ (fun ρ hρ => (⟨rfl, hρ⟩ : rShare g = rShare g ∧ XI ρ (gSample g (xs ((nI i) + (1 : Int32)).toNatClampNeg)))))) (cwV 1 hts gL_law_X7_sample rfl rfl rfl (by decide +kernel) ⟨Nat.le_of_ble_eq_true rfl, Nat.le_of_ble_eq_true rfl⟩) ⟨stW_blind nwX_ok, va_recv hK hP.appL (ci := 7) (q0 := 0) rfl wXg0, stW_passA hN hK hP hD nwX_ok⟩ rfl rfl hl.1 rfl (lv_room (Nat.le_of_ble_eq_true rfl)) dL_law_649 ⟨Nat.le_of_ble_eq_true rfl, Nat.le_of_ble_eq_true rfl⟩) hS hA hP hD (fun r1 σ H locs hq1 hP hD hS => ?_)
  refine lv_aload_n hx hb dL_law_652 rfl (lv_at hl 2 rfl) ?_
  refine lv_aload_n hx hb dL_law_653 rfl (lv_at hl 0 rfl) ?_
  refine lv_iload_n hx hb dL_law_654 rfl (lv_at hl 3 rfl) ?_
  refine lv_iconst (v := (1 : Int32)) hx hb dL_law_655 (by decide) ?_
  refine lv_iadd hx hb dL_law_656 ?_
  refine va_sld hx hb hX hbl hbA hS (l_in (k := 1) hL hi (by decide)) dL_law_657 ?_
  have hP := hP.turn
  have hD := hD.turn
  refine l_calli (va_runV (As := [.int (xs ((nI i) + (1 : Int32)).toNatClampNeg)]) (rest := [.int r1]) ⟨hx, hb, hml, hown, hts⟩ (mtX8_sample l D bd cB (va_A (wM bd cB τ) H.size) τ (xs ((nI i) + (1 : Int32)).toNatClampNeg) (fun (r : Int32) (ρ : Sto) => r = rShare g ∧ MI ρ (gSample g (xs ((nI i) + (1 : Int32)).toNatClampNeg))) (mSample_ok hτ (fun ρ hρ => (⟨rfl, hρ⟩ : rShare g = rShare g ∧ MI ρ (gSample g (xs ((nI i) + (1 : Int32)).toNatClampNeg)))))) (cwV 1 hts gL_law_X8_sample rfl rfl rfl (by decide +kernel) ⟨Nat.le_of_ble_eq_true rfl, Nat.le_of_ble_eq_true rfl⟩) ⟨stW_blind nwM_ok, va_recv hKM hP.appL (ci := 8) (q0 := 0) rfl wMg0, stW_passA hNM hKM hP hD nwM_ok⟩ rfl rfl hl.1 rfl (lv_room (Nat.le_of_ble_eq_true rfl)) dL_law_658 ⟨Nat.le_of_ble_eq_true rfl, Nat.le_of_ble_eq_true rfl⟩) hS hA hP hD (fun r2 τ H locs hq2 hP hD hS => ?_)
  have hP := hP.turn
  have hD := hD.turn
  refine lv_icmp_eq (tgt := 699) hx hb dL_law_661 (by decide) (fun hc => ?_) (fun hc => ?_)
  · exact nx _ _ _ _ _ _ hq1.2 hq2.2 hP hD hS hl
  · exact absurd (hq1.1.trans hq2.1.symm) hc
set_option maxHeartbeats 4000000 in
set_option maxRecDepth 100000 in
theorem lc18 {p : Program} {l : Launch} {e : Env} {s : State} {m : MethodId} {below : List Frame} {meth : Method} {c : Code} {b L : Nat} {xs : Nat → Int32} {D : va_G} {cA cB : Nat → ClassId} {ad bd : Nat → Nat} {i : Nat} (C : LCx p s m c b L xs D cA cB) (hi : i + 4 ≤ L) (nx : LG p l e s m below meth c b D cA cB ad bd 699 i) : LG p l e s m below meth c b D cA cB ad bd 666 i := by
  obtain ⟨hx, hb, hml, hown, hts, hN, hK, hKM, hX, hbl, hL⟩ := C
  have hA : ∀ q : Nat, s.heap.size ≤ q → (fun q : Nat => s.heap.size ≤ q) q := fun _ h => h
  have hbA : ¬ (fun q : Nat => s.heap.size ≤ q) b := Nat.not_le.mpr hbl
  have hNM : ∀ w ∈ nwM, va_Nw w s := fun w h => by cases h
  intro g σ τ H locs ls hσ hτ hP hD hS hl
  refine lv_aload_n hx hb dL_law_666 rfl (lv_at hl 1 rfl) ?_
  refine lv_aload_n hx hb dL_law_667 rfl (lv_at hl 0 rfl) ?_
  refine lv_iload_n hx hb dL_law_668 rfl (lv_at hl 3 rfl) ?_
  refine lv_iconst (v := (1 : Int32)) hx hb dL_law_669 (by decide) ?_
  refine lv_iadd hx hb dL_law_670 ?_
  refine va_sld hx hb hX hbl hbA hS (l_in (k := 1) hL hi (by decide)) dL_law_671 ?_
  refine lv_aload_n hx hb dL_law_672 rfl (lv_at hl 0 rfl) ?_
  refine lv_iload_n hx hb dL_law_673 rfl (lv_at hl 3 rfl) ?_
  refine lv_iconst (v := (2 : Int32)) hx hb dL_law_674 (by decide) ?_
  refine lv_iadd hx hb dL_law_675 ?_
  refine va_sld hx hb hX hbl hbA hS (l_in (k := 2) hL hi (by decide)) dL_law_676 ?_
  refine l_calli (va_runV (As := [.int (xs ((nI i) + (1 : Int32)).toNatClampNeg), .int (xs ((nI i) + (2 : Int32)).toNatClampNeg)]) (rest := []) ⟨hx, hb, hml, hown, hts⟩ (mtX7_learn l D ad cA (va_A (wX ad cA σ) H.size) σ (xs ((nI i) + (1 : Int32)).toNatClampNeg) (xs ((nI i) + (2 : Int32)).toNatClampNeg) (fun (r : Int32) (ρ : Sto) => r = rLearn g (xs ((nI i) + (1 : Int32)).toNatClampNeg) (xs ((nI i) + (2 : Int32)).toNatClampNeg) ∧ XI ρ (gLearn g (xs ((nI i) + (1 : Int32)).toNatClampNeg) (xs ((nI i) + (2 : Int32)).toNatClampNeg))) (xLearn_ok hσ (fun ρ hρ => (⟨rfl, hρ⟩ : rLearn g (xs ((nI i) + (1 : Int32)).toNatClampNeg) (xs ((nI i) + (2 : Int32)).toNatClampNeg) = rLearn g (xs ((nI i) + (1 : Int32)).toNatClampNeg) (xs ((nI i) + (2 : Int32)).toNatClampNeg) ∧ XI ρ (gLearn g (xs ((nI i) + (1 : Int32)).toNatClampNeg) (xs ((nI i) + (2 : Int32)).toNatClampNeg)))))) (cwV 2 hts gL_law_X7_learn rfl rfl rfl (by decide +kernel) ⟨Nat.le_of_ble_eq_true rfl, Nat.le_of_ble_eq_true rfl⟩) ⟨stW_blind nwX_ok, va_recv hK hP.appL (ci := 7) (q0 := 0) rfl wXg0, stW_passA hN hK hP hD nwX_ok⟩ rfl rfl hl.1 rfl (lv_room (Nat.le_of_ble_eq_true rfl)) dL_law_677 ⟨Nat.le_of_ble_eq_true rfl, Nat.le_of_ble_eq_true rfl⟩) hS hA hP hD (fun r1 σ H locs hq1 hP hD hS => ?_)
  refine lv_aload_n hx hb dL_law_680 rfl (lv_at hl 2 rfl) ?_
  refine lv_aload_n hx hb dL_law_681 rfl (lv_at hl 0 rfl) ?_
  refine lv_iload_n hx hb dL_law_682 rfl (lv_at hl 3 rfl) ?_
  refine lv_iconst (v := (1 : Int32)) hx hb dL_law_683 (by decide) ?_
  refine lv_iadd hx hb dL_law_684 ?_
  refine va_sld hx hb hX hbl hbA hS (l_in (k := 1) hL hi (by decide)) dL_law_685 ?_
  refine lv_aload_n hx hb dL_law_686 rfl (lv_at hl 0 rfl) ?_
  refine lv_iload_n hx hb dL_law_687 rfl (lv_at hl 3 rfl) ?_
  refine lv_iconst (v := (2 : Int32)) hx hb dL_law_688 (by decide) ?_
  refine lv_iadd hx hb dL_law_689 ?_
  refine va_sld hx hb hX hbl hbA hS (l_in (k := 2) hL hi (by decide)) dL_law_690 ?_
  have hP := hP.turn
  have hD := hD.turn
  refine l_calli (va_runV (As := [.int (xs ((nI i) + (1 : Int32)).toNatClampNeg), .int (xs ((nI i) + (2 : Int32)).toNatClampNeg)]) (rest := [.int r1]) ⟨hx, hb, hml, hown, hts⟩ (mtX8_learn l D bd cB (va_A (wM bd cB τ) H.size) τ (xs ((nI i) + (1 : Int32)).toNatClampNeg) (xs ((nI i) + (2 : Int32)).toNatClampNeg) (fun (r : Int32) (ρ : Sto) => r = rLearn g (xs ((nI i) + (1 : Int32)).toNatClampNeg) (xs ((nI i) + (2 : Int32)).toNatClampNeg) ∧ MI ρ (gLearn g (xs ((nI i) + (1 : Int32)).toNatClampNeg) (xs ((nI i) + (2 : Int32)).toNatClampNeg))) (mLearn_ok hτ (fun ρ hρ => (⟨rfl, hρ⟩ : rLearn g (xs ((nI i) + (1 : Int32)).toNatClampNeg) (xs ((nI i) + (2 : Int32)).toNatClampNeg) = rLearn g (xs ((nI i) + (1 : Int32)).toNatClampNeg) (xs ((nI i) + (2 : Int32)).toNatClampNeg) ∧ MI ρ (gLearn g (xs ((nI i) + (1 : Int32)).toNatClampNeg) (xs ((nI i) + (2 : Int32)).toNatClampNeg)))))) (cwV 2 hts gL_law_X8_learn rfl rfl rfl (by decide +kernel) ⟨Nat.le_of_ble_eq_true rfl, Nat.le_of_ble_eq_true rfl⟩) ⟨stW_blind nwM_ok, va_recv hKM hP.appL (ci := 8) (q0 := 0) rfl wMg0, stW_passA hNM hKM hP hD nwM_ok⟩ rfl rfl hl.1 rfl (lv_room (Nat.le_of_ble_eq_true rfl)) dL_law_691 ⟨Nat.le_of_ble_eq_true rfl, Nat.le_of_ble_eq_true rfl⟩) hS hA hP hD (fun r2 τ H locs hq2 hP hD hS => ?_)
  have hP := hP.turn
  have hD := hD.turn
  refine lv_icmp_eq (tgt := 699) hx hb dL_law_694 (by decide) (fun hc => ?_) (fun hc => ?_)
  · exact nx _ _ _ _ _ _ hq1.2 hq2.2 hP hD hS hl
  · exact absurd (hq1.1.trans hq2.1.symm) hc
