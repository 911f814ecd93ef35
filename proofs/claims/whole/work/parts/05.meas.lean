/-! ArcGuesser$Measures.fraction(II)J -/
def X4_fraction_wp (σ : Sto) (p0 : Int32) (p1 : Int32) (Post : Int64 → Sto → Prop) : Prop :=
  ((0 < p1 → ((¬ (p1).toInt64 = 0) ∧ (Post ((p0).toInt64 * ((3226504881600 : Int64) / (p1).toInt64)) σ))) ∧ (¬ 0 < p1 → (Post (0 : Int64) σ)))
set_option maxHeartbeats 4000000 in
set_option maxRecDepth 100000 in
theorem mtX4_fraction (l : Launch) (D : va_G) (ad : Nat → Nat) (cA : Nat → ClassId) (A : Nat → Prop) (σ : Sto) (p0 : Int32) (p1 : Int32) (Post : Int64 → Sto → Prop) (hwp : X4_fraction_wp σ p0 p1 Post) : Met l yX4_fraction wsX4_fraction ({ frames := 0, cells := 0, slots := 0, locals := 0 }) (va_Pc [.int p0, .int p1] (stW D (tyX cA) nwX (wX ad cA) A σ)) (va_Ql Post (enW D (wX ad cA) A) A) 0 0 A := by
  refine Met.ofW (cc := cX4_fraction) (maxL := 2) (ret := (some .long)) (by decide) rfl ?_
  intro p e s m args below meth c s₁ B hml hv
  obtain ⟨rfl, hA, hN, hP, hK, hD⟩ := hv
  have hx := B.exec
  have hb := B.bytes
  have hr := B.returns
  have hts := atoms_spec (ws := wsX4_fraction) B.pre
  have hown : s.vm.findClass RX4 = some m.cls := findClass_of_methodNamed B.named
  have hlocks := B.notSynchronized
  have hS : va_S A s.heap s.heap [] := va_S.rf
  have hl := lv_entry ([.int p0, .int p1]) (n := 2) (Nat.le_of_ble_eq_true rfl)
  rw [lg_entry_eq]
  generalize (lg_sl ([.int p0, .int p1]) ++ List.replicate (2 - (lg_sl ([.int p0, .int p1])).length) Slot.unset).toArray = ls at hl ⊢
  have hl : lv_has ls 2 [(0, .int p0), (1, .int p1)] := hl
  have hq := hwp
  unfold X4_fraction_wp at hq
  refine lv_iload_n hx hb dX4_fraction_0 rfl (lv_at hl 1 rfl) ?_
  refine lv_if_gt (tgt := 6) hx hb dX4_fraction_1 (by decide) (fun hc => ?_) (fun hc => ?_)
  · have hq := hq.1 hc
    refine lv_iload_n hx hb dX4_fraction_6 rfl (lv_at hl 0 rfl) ?_
    refine lv_i2l hx hb dX4_fraction_7 rfl ?_
    refine lv_ldc2 (v := (3226504881600 : Int64)) hx hb hown (hts (.constantLong RX4 49 (3226504881600)) (List.mem_of_getElem? (i := 1) rfl)) dX4_fraction_8 ?_
    refine lv_iload_n hx hb dX4_fraction_11 rfl (lv_at hl 1 rfl) ?_
    refine lv_i2l hx hb dX4_fraction_12 rfl ?_
    refine lv_ldiv hx hb dX4_fraction_13 hq.1 ?_
    have hq := hq.2
    refine lv_lmul hx hb dX4_fraction_14 ?_
    exact W.lret (v := ((p0).toInt64 * ((3226504881600 : Int64) / (p1).toInt64))) hx hb hr (fun t ht hW => ⟨⟨((p0).toInt64 * ((3226504881600 : Int64) / (p1).toInt64)), σ, rfl, hq, by rw [ht]; exact hP, hD⟩, hS.F ht⟩) hS.2.2 dX4_fraction_15
  · have hq := hq.2 hc
    refine lv_lconst (v := (0 : Int64)) hx hb dX4_fraction_4 (by decide) ?_
    exact W.lret (v := (0 : Int64)) hx hb hr (fun t ht hW => ⟨⟨(0 : Int64), σ, rfl, hq, by rw [ht]; exact hP, hD⟩, hS.F ht⟩) hS.2.2 dX4_fraction_5
/-! ArcGuesser$Measures.overlap(III)J -/
def X4_overlap_wp (σ : Sto) (p0 : Int32) (p1 : Int32) (p2 : Int32) (Post : Int64 → Sto → Prop) : Prop :=
  (J6_bitCount_0f7a4_wp σ (p1 &&& p2) (fun r1 σ1 => (J6_bitCount_0f7a4_wp σ1 p1 (fun r2 σ2 => (J6_bitCount_0f7a4_wp σ2 p2 (fun r3 σ3 => ((p0 = (1 : Int32) → (J6_bitCount_0f7a4_wp σ3 (p1 ||| p2) (fun r4 σ4 => (X4_fraction_wp σ4 r1 r4 (fun r5 σ5 => (Post r5 σ5)))))) ∧ (p0 = (2 : Int32) → (X4_fraction_wp σ3 ((2 : Int32) * r1) (r2 + r3) (fun r6 σ6 => (Post r6 σ6)))) ∧ (p0 = (3 : Int32) → (X4_fraction_wp σ3 r1 (if r3 < r2 then r3 else r2) (fun r7 σ7 => (Post r7 σ7)))) ∧ (p0 = (4 : Int32) → (X4_fraction_wp σ3 r1 (if r2 < r3 then r3 else r2) (fun r8 σ8 => (Post r8 σ8)))) ∧ (¬ p0 = (1 : Int32) → ¬ p0 = (2 : Int32) → ¬ p0 = (3 : Int32) → ¬ p0 = (4 : Int32) → (X4_fraction_wp σ3 r1 (1 : Int32) (fun r9 σ9 => (Post r9 σ9)))))))))))
set_option maxHeartbeats 4000000 in
set_option maxRecDepth 100000 in
theorem mtX4_overlap (l : Launch) (D : va_G) (ad : Nat → Nat) (cA : Nat → ClassId) (A : Nat → Prop) (σ : Sto) (p0 : Int32) (p1 : Int32) (p2 : Int32) (Post : Int64 → Sto → Prop) (hwp : X4_overlap_wp σ p0 p1 p2 Post) : Met l yX4_overlap wsX4_overlap ({ frames := 1, cells := 0, slots := 0, locals := 21 }) (va_Pc [.int p0, .int p1, .int p2] (stW D (tyX cA) nwX (wX ad cA) A σ)) (va_Ql Post (enW D (wX ad cA) A) A) 0 0 A := by
  refine Met.ofW (cc := cX4_overlap) (maxL := 6) (ret := (some .long)) (by decide) rfl ?_
  intro p e s m args below meth c s₁ B hml hv
  obtain ⟨rfl, hA, hN, hP, hK, hD⟩ := hv
  have hx := B.exec
  have hb := B.bytes
  have hr := B.returns
  have hts := atoms_spec (ws := wsX4_overlap) B.pre
  have hown : s.vm.findClass RX4 = some m.cls := findClass_of_methodNamed B.named
  have hlocks := B.notSynchronized
  have hS : va_S A s.heap s.heap [] := va_S.rf
  have hl := lv_entry ([.int p0, .int p1, .int p2]) (n := 6) (Nat.le_of_ble_eq_true rfl)
  rw [lg_entry_eq]
  generalize (lg_sl ([.int p0, .int p1, .int p2]) ++ List.replicate (6 - (lg_sl ([.int p0, .int p1, .int p2])).length) Slot.unset).toArray = ls at hl ⊢
  have hl : lv_has ls 6 [(0, .int p0), (1, .int p1), (2, .int p2)] := hl
  have hq := hwp
  unfold X4_overlap_wp at hq
  refine lv_iload_n hx hb dX4_overlap_0 rfl (lv_at hl 1 rfl) ?_
  refine lv_iload_n hx hb dX4_overlap_1 rfl (lv_at hl 2 rfl) ?_
  refine lv_iand hx hb dX4_overlap_2 ?_
  refine w_calli (va_runS (As := [.int (p1 &&& p2)]) (rest := []) ⟨hx, hb, hml, hown, hts⟩ (mtJ6_bitCount_0f7a4 l D (wX ad cA) (tyX cA) nwX A σ (p1 &&& p2) _ hq) (va_cwS 1 hts gX4_overlap_J6_bitCount_0f7a4 rfl rfl rfl (by decide +kernel) ⟨Nat.le_of_ble_eq_true rfl, Nat.le_of_ble_eq_true rfl⟩) ⟨stW_blind nwX_ok, stW_pass hA hS hN hK hP hD nwX_ok⟩ rfl rfl hl.1 rfl (lv_room (Nat.le_of_ble_eq_true rfl)) dX4_overlap_3 ⟨Nat.le_of_ble_eq_true rfl, Nat.le_of_ble_eq_true rfl⟩) hS (fun r1 σ1 H locs hq hP hD hS => ?_)
  refine lv_istore_n (lv' := [(3, .int r1), (0, .int p0), (1, .int p1), (2, .int p2)]) hx hb dX4_overlap_6 rfl hl (by decide) rfl (fun ls hl => ?_)
  refine lv_iload_n hx hb dX4_overlap_7 rfl (lv_at hl 2 rfl) ?_
  refine w_calli (va_runS (As := [.int p1]) (rest := []) ⟨hx, hb, hml, hown, hts⟩ (mtJ6_bitCount_0f7a4 l D (wX ad cA) (tyX cA) nwX A σ1 p1 _ hq) (va_cwS 1 hts gX4_overlap_J6_bitCount_0f7a4 rfl rfl rfl (by decide +kernel) ⟨Nat.le_of_ble_eq_true rfl, Nat.le_of_ble_eq_true rfl⟩) ⟨stW_blind nwX_ok, stW_pass hA hS hN hK hP hD nwX_ok⟩ rfl rfl hl.1 rfl (lv_room (Nat.le_of_ble_eq_true rfl)) dX4_overlap_8 ⟨Nat.le_of_ble_eq_true rfl, Nat.le_of_ble_eq_true rfl⟩) hS (fun r2 σ2 H locs hq hP hD hS => ?_)
  refine lv_istore (lv' := [(4, .int r2), (3, .int r1), (0, .int p0), (1, .int p1), (2, .int p2)]) hx hb dX4_overlap_11 hl (by decide) rfl (fun ls hl => ?_)
  refine lv_iload_n hx hb dX4_overlap_13 rfl (lv_at hl 4 rfl) ?_
  refine w_calli (va_runS (As := [.int p2]) (rest := []) ⟨hx, hb, hml, hown, hts⟩ (mtJ6_bitCount_0f7a4 l D (wX ad cA) (tyX cA) nwX A σ2 p2 _ hq) (va_cwS 1 hts gX4_overlap_J6_bitCount_0f7a4 rfl rfl rfl (by decide +kernel) ⟨Nat.le_of_ble_eq_true rfl, Nat.le_of_ble_eq_true rfl⟩) ⟨stW_blind nwX_ok, stW_pass hA hS hN hK hP hD nwX_ok⟩ rfl rfl hl.1 rfl (lv_room (Nat.le_of_ble_eq_true rfl)) dX4_overlap_14 ⟨Nat.le_of_ble_eq_true rfl, Nat.le_of_ble_eq_true rfl⟩) hS (fun r3 σ3 H locs hq hP hD hS => ?_)
  refine lv_istore (lv' := [(5, .int r3), (4, .int r2), (3, .int r1), (0, .int p0), (1, .int p1), (2, .int p2)]) hx hb dX4_overlap_17 hl (by decide) rfl (fun ls hl => ?_)
  refine lv_iload_n hx hb dX4_overlap_19 rfl (lv_at hl 3 rfl) ?_
  by_cases hc0 : p0 = (1 : Int32)
  · have hq := hq.1 hc0
    refine lv_tableIn (off := 32) (tgt := 52) hx hb dX4_overlap_20 (by rw [hc0]; decide) (by rw [hc0]; decide) (by rw [hc0]; rfl) (by decide) ?_
    refine lv_iload_n hx hb dX4_overlap_52 rfl (lv_at hl 2 rfl) ?_
    refine lv_iload_n hx hb dX4_overlap_53 rfl (lv_at hl 4 rfl) ?_
    refine lv_iload_n hx hb dX4_overlap_54 rfl (lv_at hl 5 rfl) ?_
    refine lv_ior hx hb dX4_overlap_55 ?_
    refine w_calli (va_runS (As := [.int (p1 ||| p2)]) (rest := [.int r1]) ⟨hx, hb, hml, hown, hts⟩ (mtJ6_bitCount_0f7a4 l D (wX ad cA) (tyX cA) nwX A σ3 (p1 ||| p2) _ hq) (va_cwS 1 hts gX4_overlap_J6_bitCount_0f7a4 rfl rfl rfl (by decide +kernel) ⟨Nat.le_of_ble_eq_true rfl, Nat.le_of_ble_eq_true rfl⟩) ⟨stW_blind nwX_ok, stW_pass hA hS hN hK hP hD nwX_ok⟩ rfl rfl hl.1 rfl (lv_room (Nat.le_of_ble_eq_true rfl)) dX4_overlap_56 ⟨Nat.le_of_ble_eq_true rfl, Nat.le_of_ble_eq_true rfl⟩) hS (fun r4 σ4 H locs hq hP hD hS => ?_)
    refine w_calll (va_runS (As := [.int r1, .int r4]) (rest := []) ⟨hx, hb, hml, hown, hts⟩ (mtX4_fraction l D ad cA A σ4 r1 r4 _ hq) (va_cwS 2 hts gX4_overlap_X4_fraction rfl rfl rfl (by decide +kernel) ⟨Nat.le_of_ble_eq_true rfl, Nat.le_of_ble_eq_true rfl⟩) ⟨stW_blind nwX_ok, stW_pass hA hS hN hK hP hD nwX_ok⟩ rfl rfl hl.1 rfl (lv_room (Nat.le_of_ble_eq_true rfl)) dX4_overlap_59 ⟨Nat.le_of_ble_eq_true rfl, Nat.le_of_ble_eq_true rfl⟩) hS (fun r5 σ5 H locs hq hP hD hS => ?_)
    exact W.lret (v := r5) hx hb hr (fun t ht hW => ⟨⟨r5, σ5, rfl, hq, by rw [ht]; exact hP, hD⟩, hS.F ht⟩) hS.2.2 dX4_overlap_62
  have hq := hq.2
  by_cases hc1 : p0 = (2 : Int32)
  · have hq := hq.1 hc1
    refine lv_tableIn (off := 43) (tgt := 63) hx hb dX4_overlap_20 (by rw [hc1]; decide) (by rw [hc1]; decide) (by rw [hc1]; rfl) (by decide) ?_
    refine lv_iconst (v := (2 : Int32)) hx hb dX4_overlap_63 (by decide) ?_
    refine lv_iload_n hx hb dX4_overlap_64 rfl (lv_at hl 2 rfl) ?_
    refine lv_imul hx hb dX4_overlap_65 ?_
    refine lv_iload hx hb dX4_overlap_66 (lv_at hl 1 rfl) ?_
    refine lv_iload hx hb dX4_overlap_68 (lv_at hl 0 rfl) ?_
    refine lv_iadd hx hb dX4_overlap_70 ?_
    refine w_calll (va_runS (As := [.int ((2 : Int32) * r1), .int (r2 + r3)]) (rest := []) ⟨hx, hb, hml, hown, hts⟩ (mtX4_fraction l D ad cA A σ3 ((2 : Int32) * r1) (r2 + r3) _ hq) (va_cwS 2 hts gX4_overlap_X4_fraction rfl rfl rfl (by decide +kernel) ⟨Nat.le_of_ble_eq_true rfl, Nat.le_of_ble_eq_true rfl⟩) ⟨stW_blind nwX_ok, stW_pass hA hS hN hK hP hD nwX_ok⟩ rfl rfl hl.1 rfl (lv_room (Nat.le_of_ble_eq_true rfl)) dX4_overlap_71 ⟨Nat.le_of_ble_eq_true rfl, Nat.le_of_ble_eq_true rfl⟩) hS (fun r6 σ6 H locs hq hP hD hS => ?_)
    exact W.lret (v := r6) hx hb hr (fun t ht hW => ⟨⟨r6, σ6, rfl, hq, by rw [ht]; exact hP, hD⟩, hS.F ht⟩) hS.2.2 dX4_overlap_74
  have hq := hq.2
  by_cases hc2 : p0 = (3 : Int32)
  · have hq := hq.1 hc2
    refine lv_tableIn (off := 55) (tgt := 75) hx hb dX4_overlap_20 (by rw [hc2]; decide) (by rw [hc2]; decide) (by rw [hc2]; rfl) (by decide) ?_
    refine lv_iload_n hx hb dX4_overlap_75 rfl (lv_at hl 2 rfl) ?_
    refine lv_iload hx hb dX4_overlap_76 (lv_at hl 1 rfl) ?_
    refine lv_iload hx hb dX4_overlap_78 (lv_at hl 0 rfl) ?_
    refine va_mmin hx hb (by rw [hml]; exact hl.1.symm) hown (hts (.methodLink RX4 82 Lib.Math.min.name) (List.mem_of_getElem? (i := 1) rfl)) (hts (.static Lib.Math.min.name) (List.mem_of_getElem? (i := 2) rfl)) (hts (.initialized "java/lang/Math") (List.mem_of_getElem? (i := 3) rfl)) (hts (.code Lib.Math.min.name Lib.Math.min.code 2 (some .int)) (List.mem_of_getElem? (i := 4) rfl)) (Nat.le_of_ble_eq_true rfl) (Nat.le_of_ble_eq_true rfl) (Nat.zero_le _) (Nat.zero_le _) dX4_overlap_80 ?_
    refine w_calll (va_runS (As := [.int r1, .int (if r3 < r2 then r3 else r2)]) (rest := []) ⟨hx, hb, hml, hown, hts⟩ (mtX4_fraction l D ad cA A σ3 r1 (if r3 < r2 then r3 else r2) _ hq) (va_cwS 2 hts gX4_overlap_X4_fraction rfl rfl rfl (by decide +kernel) ⟨Nat.le_of_ble_eq_true rfl, Nat.le_of_ble_eq_true rfl⟩) ⟨stW_blind nwX_ok, stW_pass hA hS hN hK hP hD nwX_ok⟩ rfl rfl hl.1 rfl (lv_room (Nat.le_of_ble_eq_true rfl)) dX4_overlap_83 ⟨Nat.le_of_ble_eq_true rfl, Nat.le_of_ble_eq_true rfl⟩) hS (fun r7 σ7 H locs hq hP hD hS => ?_)
    exact W.lret (v := r7) hx hb hr (fun t ht hW => ⟨⟨r7, σ7, rfl, hq, by rw [ht]; exact hP, hD⟩, hS.F ht⟩) hS.2.2 dX4_overlap_86
  have hq := hq.2
  by_cases hc3 : p0 = (4 : Int32)
  · have hq := hq.1 hc3
    refine lv_tableIn (off := 67) (tgt := 87) hx hb dX4_overlap_20 (by rw [hc3]; decide) (by rw [hc3]; decide) (by rw [hc3]; rfl) (by decide) ?_
    refine lv_iload_n hx hb dX4_overlap_87 rfl (lv_at hl 2 rfl) ?_
    refine lv_iload hx hb dX4_overlap_88 (lv_at hl 1 rfl) ?_
    refine lv_iload hx hb dX4_overlap_90 (lv_at hl 0 rfl) ?_
    refine va_mmax hx hb (by rw [hml]; exact hl.1.symm) hown (hts (.methodLink RX4 87 Lib.Math.max.name) (List.mem_of_getElem? (i := 5) rfl)) (hts (.static Lib.Math.max.name) (List.mem_of_getElem? (i := 6) rfl)) (hts (.initialized "java/lang/Math") (List.mem_of_getElem? (i := 3) rfl)) (hts (.code Lib.Math.max.name Lib.Math.max.code 2 (some .int)) (List.mem_of_getElem? (i := 7) rfl)) (Nat.le_of_ble_eq_true rfl) (Nat.le_of_ble_eq_true rfl) (Nat.zero_le _) (Nat.zero_le _) dX4_overlap_92 ?_
    refine w_calll (va_runS (As := [.int r1, .int (if r2 < r3 then r3 else r2)]) (rest := []) ⟨hx, hb, hml, hown, hts⟩ (mtX4_fraction l D ad cA A σ3 r1 (if r2 < r3 then r3 else r2) _ hq) (va_cwS 2 hts gX4_overlap_X4_fraction rfl rfl rfl (by decide +kernel) ⟨Nat.le_of_ble_eq_true rfl, Nat.le_of_ble_eq_true rfl⟩) ⟨stW_blind nwX_ok, stW_pass hA hS hN hK hP hD nwX_ok⟩ rfl rfl hl.1 rfl (lv_room (Nat.le_of_ble_eq_true rfl)) dX4_overlap_95 ⟨Nat.le_of_ble_eq_true rfl, Nat.le_of_ble_eq_true rfl⟩) hS (fun r8 σ8 H locs hq hP hD hS => ?_)
    exact W.lret (v := r8) hx hb hr (fun t ht hW => ⟨⟨r8, σ8, rfl, hq, by rw [ht]; exact hP, hD⟩, hS.F ht⟩) hS.2.2 dX4_overlap_98
  have hq := hq.2
  have hq := hq hc0 hc1 hc2 hc3
  refine lv_tableOut (tgt := 99) hx hb dX4_overlap_20 (by have e0 := lv_neT hc0 (a := 1) (by decide); have e1 := lv_neT hc1 (a := 2) (by decide); have e2 := lv_neT hc2 (a := 3) (by decide); have e3 := lv_neT hc3 (a := 4) (by decide); omega) (by decide) ?_
  refine lv_iload_n hx hb dX4_overlap_99 rfl (lv_at hl 2 rfl) ?_
  refine lv_iconst (v := (1 : Int32)) hx hb dX4_overlap_100 (by decide) ?_
  refine w_calll (va_runS (As := [.int r1, .int (1 : Int32)]) (rest := []) ⟨hx, hb, hml, hown, hts⟩ (mtX4_fraction l D ad cA A σ3 r1 (1 : Int32) _ hq) (va_cwS 2 hts gX4_overlap_X4_fraction rfl rfl rfl (by decide +kernel) ⟨Nat.le_of_ble_eq_true rfl, Nat.le_of_ble_eq_true rfl⟩) ⟨stW_blind nwX_ok, stW_pass hA hS hN hK hP hD nwX_ok⟩ rfl rfl hl.1 rfl (lv_room (Nat.le_of_ble_eq_true rfl)) dX4_overlap_101 ⟨Nat.le_of_ble_eq_true rfl, Nat.le_of_ble_eq_true rfl⟩) hS (fun r9 σ9 H locs hq hP hD hS => ?_)
  exact W.lret (v := r9) hx hb hr (fun t ht hW => ⟨⟨r9, σ9, rfl, hq, by rw [ht]; exact hP, hD⟩, hS.F ht⟩) hS.2.2 dX4_overlap_104
/-! ArcGuesser$Measures.rareCommon(I)J -/
def X4_rareCommon_b5 (p1 : Int32) (K5 : Sto → Int64 → Int32 → Prop) (Post : Int64 → Sto → Prop) (σ : Sto) (v2 : Int64) (v4 : Int32) : Prop :=
  (((σ.1 1 0) ≤ v4 → (Post v2 σ)) ∧ (¬ (σ.1 1 0) ≤ v4 → (X6_has_wp σ p1 v4 (fun r1 σ1 => ((r1 = 0 → (K5 σ1 v2 (v4 + (1 : Int32)))) ∧ (¬ r1 = 0 → (vp_in v4 12 ∧ (J6_bitCount_0f7a4_wp σ1 (σ1.1 9 (v4).toNatClampNeg) (fun r2 σ2 => (X4_fraction_wp σ2 (1 : Int32) r2 (fun r3 σ3 => (K5 σ3 (v2 + r3) (v4 + (1 : Int32))))))))))))))
def X4_rareCommon_wp (σ : Sto) (p1 : Int32) (Post : Int64 → Sto → Prop) : Prop := ∀ (K5 : Sto → Int64 → Int32 → Prop), (∀ (σ : Sto) (v2 : Int64) (v4 : Int32), X4_rareCommon_b5 p1 K5 Post σ v2 v4 → K5 σ v2 v4) → 
  (K5 σ (0 : Int64) (0 : Int32))
set_option maxHeartbeats 4000000 in
set_option maxRecDepth 100000 in
theorem mtX4_rareCommon (l : Launch) (D : va_G) (ad : Nat → Nat) (cA : Nat → ClassId) (A : Nat → Prop) (σ : Sto) (p1 : Int32) (Post : Int64 → Sto → Prop) (hwp : X4_rareCommon_wp σ p1 Post) : Met l yX4_rareCommon wsX4_rareCommon ({ frames := 1, cells := 0, slots := 0, locals := 21 }) (va_Pc [.ref (ad 11), .int p1] (stW D (tyX cA) nwX (wX ad cA) A σ)) (va_Ql Post (enW D (wX ad cA) A) A) 0 0 A := by
  refine Met.ofW (cc := cX4_rareCommon) (maxL := 5) (ret := (some .long)) (by decide) rfl ?_
  intro p e s m args below meth c s₁ B hml hv
  obtain ⟨rfl, hA, hN, hP, hK, hD⟩ := hv
  have hx := B.exec
  have hb := B.bytes
  have hr := B.returns
  have hts := atoms_spec (ws := wsX4_rareCommon) B.pre
  have hown : s.vm.findClass RX4 = some m.cls := findClass_of_methodNamed B.named
  have hlocks := B.notSynchronized
  have hiX4 : ∀ w ∈ wsX40, w ∈ wsX4_rareCommon := by decide +kernel
  have hiX6 : ∀ w ∈ wsX60, w ∈ wsX4_rareCommon := by decide +kernel
  have hS : va_S A s.heap s.heap [] := va_S.rf
  have hl := lv_entry ([.ref (ad 11), .int p1]) (n := 5) (Nat.le_of_ble_eq_true rfl)
  rw [lg_entry_eq]
  generalize (lg_sl ([.ref (ad 11), .int p1]) ++ List.replicate (5 - (lg_sl ([.ref (ad 11), .int p1])).length) Slot.unset).toArray = ls at hl ⊢
  have hl : lv_has ls 5 [(0, .ref (ad 11)), (1, .int p1)] := hl
  obtain ⟨K5, hK5⟩ : ∃ K : Sto → Int64 → Int32 → Prop, K = fun (σ : Sto) (v2 : Int64) (v4 : Int32) => ∀ (H : Heap) (locs : List Loc) (ls : Array Slot), va_P D vwCl ((wX ad cA) σ) H → va_D A ((wX ad cA) σ) → va_S A s.heap H locs → lv_has ls 5 [(0, .ref (ad 11)), (1, .int p1), (2, .long v2), (4, .int v4)] → W p l e (headSpec wsX4_rareCommon ({ frames := 1, cells := 0, slots := 0, locals := 21 })).room s m ([.ref (ad 11), .int p1] : List Value).toArray below meth c H locs 0 0 (MQ below (va_Ql Post (enW D (wX ad cA) A) A) ([.ref (ad 11), .int p1] : List Value).toArray s 0 0 A) (F0 m 5 ls []) := ⟨_, rfl⟩
  have hk5 : ∀ (σ : Sto) (v2 : Int64) (v4 : Int32), X4_rareCommon_b5 p1 K5 Post σ v2 v4 → K5 σ v2 v4 := by
    intro σ v2 v4 hq
    rw [hK5]
    intro H locs ls hP hD hS hl
    unfold X4_rareCommon_b5 at hq
    refine lv_iload hx hb dX4_rareCommon_5 (lv_at hl 3 rfl) ?_
    refine lv_aload_n hx hb dX4_rareCommon_7 rfl (lv_at hl 0 rfl) ?_
    refine va_get (D := D) (ci := 4) (v := .ref (ad 1)) (C := RX4) (T := TX4) (N := 4) hx hb hts hiX4 hown hK hP 11 wXg11 rfl 0 (by decide) (hts (.fieldLink RX4 9 "ArcGuesser$Measures" "net" "LArcGuesser$Net;") (List.mem_of_getElem? (i := 1) rfl)) (fun _ h9 => h9) rfl dX4_rareCommon_8 ?_
    refine va_getN (D := D) (ci := 6) (v := .int (σ.1 1 0)) (C := RX6) (T := TX6) (N := 13) hx hb hts hiX6 hown hK hP 1 wXg1 rfl 0 (by decide) (va_Nw.use rfl (hN (.fieldLinkNest RX4 90 "ArcGuesser$Net" "nodes" "I" "ArcGuesser") (List.mem_of_getElem? (i := 23) rfl))) (fun _ h9 => h9) rfl dX4_rareCommon_11 ?_
    refine lv_icmp_ge (tgt := 52) hx hb dX4_rareCommon_14 (by decide) (fun hc => ?_) (fun hc => ?_)
    · have hq := hq.1 hc
      refine lv_lload_n hx hb dX4_rareCommon_52 rfl (lv_at hl 2 rfl) ?_
      exact W.lret (v := v2) hx hb hr (fun t ht hW => ⟨⟨v2, σ, rfl, hq, by rw [ht]; exact hP, hD⟩, hS.F ht⟩) hS.2.2 dX4_rareCommon_53
    · have hq := hq.2 hc
      refine lv_iload_n hx hb dX4_rareCommon_17 rfl (lv_at hl 1 rfl) ?_
      refine lv_iload hx hb dX4_rareCommon_18 (lv_at hl 3 rfl) ?_
      refine w_calli (va_runSN (As := [.int p1, .int v4]) (rest := []) ⟨hx, hb, hml, hown, hts⟩ (mtX6_has l D ad cA A σ p1 v4 _ hq) ⟨va_cnB 2 hts ggX4_rareCommon_X6_has rfl rfl rfl (hN (.methodLinkNest RX4 93 yX6_has "ArcGuesser") (List.mem_of_getElem? (i := 66) rfl)) (hts (.initialized RX6) (List.mem_of_getElem? (i := 3) rfl)) (by decide +kernel) ⟨Nat.le_of_ble_eq_true rfl, Nat.le_of_ble_eq_true rfl⟩, hts (.static yX6_has) (List.mem_of_getElem? (i := 2) rfl), trivial⟩ ⟨stW_blind nwX_ok, stW_pass hA hS hN hK hP hD nwX_ok⟩ rfl rfl hl.1 rfl (lv_room (Nat.le_of_ble_eq_true rfl)) dX4_rareCommon_20 ⟨Nat.le_of_ble_eq_true rfl, Nat.le_of_ble_eq_true rfl⟩) hS (fun r1 σ1 H locs hq hP hD hS => ?_)
      refine lv_if_eq (tgt := 46) hx hb dX4_rareCommon_23 (by decide) (fun hc => ?_) (fun hc => ?_)
      · have hq := hq.1 hc
        refine lv_iinc (v := (v4 + (1 : Int32))) (lv' := [(4, .int (v4 + (1 : Int32))), (0, .ref (ad 11)), (1, .int p1), (2, .long v2)]) hx hb dX4_rareCommon_46 hl (k := 3) rfl (by rfl) (by decide) rfl (fun ls hl => ?_)
        refine lv_goto (tgt := 5) hx hb dX4_rareCommon_49 (by decide) ?_
        rw [hK5] at hq
        exact hq _ _ _ hP hD hS (lv_sub hl [1, 2, 3, 0] rfl)
      · have hq := hq.2 hc
        refine lv_lload_n hx hb dX4_rareCommon_26 rfl (lv_at hl 2 rfl) ?_
        refine lv_iconst (v := (1 : Int32)) hx hb dX4_rareCommon_27 (by decide) ?_
        refine lv_aload_n hx hb dX4_rareCommon_28 rfl (lv_at hl 0 rfl) ?_
        refine va_get (D := D) (ci := 4) (v := .ref (ad 1)) (C := RX4) (T := TX4) (N := 4) hx hb hts hiX4 hown hK hP 11 wXg11 rfl 0 (by decide) (hts (.fieldLink RX4 9 "ArcGuesser$Measures" "net" "LArcGuesser$Net;") (List.mem_of_getElem? (i := 1) rfl)) (fun _ h9 => h9) rfl dX4_rareCommon_29 ?_
        refine va_getN (D := D) (ci := 6) (v := .ref (ad 9)) (C := RX6) (T := TX6) (N := 13) hx hb hts hiX6 hown hK hP 1 wXg1 rfl 11 (by decide) (va_Nw.use rfl (hN (.fieldLinkNest RX4 34 "ArcGuesser$Net" "out" "[I" "ArcGuesser") (List.mem_of_getElem? (i := 20) rfl))) (fun _ h9 => h9) rfl dX4_rareCommon_32 ?_
        refine lv_iload hx hb dX4_rareCommon_35 (lv_at hl 3 rfl) ?_
        refine va_iald hx hb hK hP 9 0 wXg9 rfl hq.1 dX4_rareCommon_37 ?_
        have hq := hq.2
        refine w_calli (va_runS (As := [.int (σ1.1 9 (v4).toNatClampNeg)]) (rest := [.int (1 : Int32), .long v2]) ⟨hx, hb, hml, hown, hts⟩ (mtJ6_bitCount_0f7a4 l D (wX ad cA) (tyX cA) nwX A σ1 (σ1.1 9 (v4).toNatClampNeg) _ hq) (va_cwS 1 hts gX4_rareCommon_J6_bitCount_0f7a4 rfl rfl rfl (by decide +kernel) ⟨Nat.le_of_ble_eq_true rfl, Nat.le_of_ble_eq_true rfl⟩) ⟨stW_blind nwX_ok, stW_pass hA hS hN hK hP hD nwX_ok⟩ rfl rfl hl.1 rfl (lv_room (Nat.le_of_ble_eq_true rfl)) dX4_rareCommon_38 ⟨Nat.le_of_ble_eq_true rfl, Nat.le_of_ble_eq_true rfl⟩) hS (fun r2 σ2 H locs hq hP hD hS => ?_)
        refine w_calll (va_runS (As := [.int (1 : Int32), .int r2]) (rest := [.long v2]) ⟨hx, hb, hml, hown, hts⟩ (mtX4_fraction l D ad cA A σ2 (1 : Int32) r2 _ hq) (va_cwS 2 hts gX4_rareCommon_X4_fraction rfl rfl rfl (by decide +kernel) ⟨Nat.le_of_ble_eq_true rfl, Nat.le_of_ble_eq_true rfl⟩) ⟨stW_blind nwX_ok, stW_pass hA hS hN hK hP hD nwX_ok⟩ rfl rfl hl.1 rfl (lv_room (Nat.le_of_ble_eq_true rfl)) dX4_rareCommon_41 ⟨Nat.le_of_ble_eq_true rfl, Nat.le_of_ble_eq_true rfl⟩) hS (fun r3 σ3 H locs hq hP hD hS => ?_)
        refine lv_ladd hx hb dX4_rareCommon_44 ?_
        refine lv_lstore_n (lv' := [(2, .long (v2 + r3)), (0, .ref (ad 11)), (1, .int p1), (4, .int v4)]) hx hb dX4_rareCommon_45 rfl hl (by decide) rfl (fun ls hl => ?_)
        refine lv_iinc (v := (v4 + (1 : Int32))) (lv' := [(4, .int (v4 + (1 : Int32))), (2, .long (v2 + r3)), (0, .ref (ad 11)), (1, .int p1)]) hx hb dX4_rareCommon_46 hl (k := 3) rfl (by rfl) (by decide) rfl (fun ls hl => ?_)
        refine lv_goto (tgt := 5) hx hb dX4_rareCommon_49 (by decide) ?_
        rw [hK5] at hq
        exact hq _ _ _ hP hD hS (lv_sub hl [2, 3, 1, 0] rfl)
  have hq := hwp K5 hk5
  refine lv_lconst (v := (0 : Int64)) hx hb dX4_rareCommon_0 (by decide) ?_
  refine lv_lstore_n (lv' := [(2, .long (0 : Int64)), (0, .ref (ad 11)), (1, .int p1)]) hx hb dX4_rareCommon_1 rfl hl (by decide) rfl (fun ls hl => ?_)
  refine lv_iconst (v := (0 : Int32)) hx hb dX4_rareCommon_2 (by decide) ?_
  refine lv_istore (lv' := [(4, .int (0 : Int32)), (2, .long (0 : Int64)), (0, .ref (ad 11)), (1, .int p1)]) hx hb dX4_rareCommon_3 hl (by decide) rfl (fun ls hl => ?_)
  rw [hK5] at hq
  exact hq _ _ _ hP hD hS (lv_sub hl [2, 3, 1, 0] rfl)
/-! ArcGuesser$Measures.waysOfTwo(II)I -/
def X4_waysOfTwo_wp (σ : Sto) (p1 : Int32) (p2 : Int32) (Post : Int32 → Sto → Prop) : Prop :=
  (vp_in p1 12 ∧ (vp_in p2 12 ∧ (J6_bitCount_0f7a4_wp σ ((σ.1 9 (p1).toNatClampNeg) &&& (σ.1 10 (p2).toNatClampNeg)) (fun r1 σ1 => (Post r1 σ1)))))
set_option maxHeartbeats 4000000 in
set_option maxRecDepth 100000 in
theorem mtX4_waysOfTwo (l : Launch) (D : va_G) (ad : Nat → Nat) (cA : Nat → ClassId) (A : Nat → Prop) (σ : Sto) (p1 : Int32) (p2 : Int32) (Post : Int32 → Sto → Prop) (hwp : X4_waysOfTwo_wp σ p1 p2 Post) : Met l yX4_waysOfTwo wsX4_waysOfTwo ({ frames := 1, cells := 0, slots := 0, locals := 20 }) (va_Pc [.ref (ad 11), .int p1, .int p2] (stW D (tyX cA) nwX (wX ad cA) A σ)) (va_Qi Post (enW D (wX ad cA) A) A) 0 0 A := by
  refine Met.ofW (cc := cX4_waysOfTwo) (maxL := 3) (ret := (some .int)) (by decide) rfl ?_
  intro p e s m args below meth c s₁ B hml hv
  obtain ⟨rfl, hA, hN, hP, hK, hD⟩ := hv
  have hx := B.exec
  have hb := B.bytes
  have hr := B.returns
  have hts := atoms_spec (ws := wsX4_waysOfTwo) B.pre
  have hown : s.vm.findClass RX4 = some m.cls := findClass_of_methodNamed B.named
  have hlocks := B.notSynchronized
  have hiX4 : ∀ w ∈ wsX40, w ∈ wsX4_waysOfTwo := by decide +kernel
  have hiX6 : ∀ w ∈ wsX60, w ∈ wsX4_waysOfTwo := by decide +kernel
  have hS : va_S A s.heap s.heap [] := va_S.rf
  have hl := lv_entry ([.ref (ad 11), .int p1, .int p2]) (n := 3) (Nat.le_of_ble_eq_true rfl)
  rw [lg_entry_eq]
  generalize (lg_sl ([.ref (ad 11), .int p1, .int p2]) ++ List.replicate (3 - (lg_sl ([.ref (ad 11), .int p1, .int p2])).length) Slot.unset).toArray = ls at hl ⊢
  have hl : lv_has ls 3 [(0, .ref (ad 11)), (1, .int p1), (2, .int p2)] := hl
  have hq := hwp
  unfold X4_waysOfTwo_wp at hq
  refine lv_aload_n hx hb dX4_waysOfTwo_0 rfl (lv_at hl 0 rfl) ?_
  refine va_get (D := D) (ci := 4) (v := .ref (ad 1)) (C := RX4) (T := TX4) (N := 4) hx hb hts hiX4 hown hK hP 11 wXg11 rfl 0 (by decide) (hts (.fieldLink RX4 9 "ArcGuesser$Measures" "net" "LArcGuesser$Net;") (List.mem_of_getElem? (i := 1) rfl)) (fun _ h9 => h9) rfl dX4_waysOfTwo_1 ?_
  refine va_getN (D := D) (ci := 6) (v := .ref (ad 9)) (C := RX6) (T := TX6) (N := 13) hx hb hts hiX6 hown hK hP 1 wXg1 rfl 11 (by decide) (va_Nw.use rfl (hN (.fieldLinkNest RX4 34 "ArcGuesser$Net" "out" "[I" "ArcGuesser") (List.mem_of_getElem? (i := 20) rfl))) (fun _ h9 => h9) rfl dX4_waysOfTwo_4 ?_
  refine lv_iload_n hx hb dX4_waysOfTwo_7 rfl (lv_at hl 1 rfl) ?_
  refine va_iald hx hb hK hP 9 0 wXg9 rfl hq.1 dX4_waysOfTwo_8 ?_
  have hq := hq.2
  refine lv_aload_n hx hb dX4_waysOfTwo_9 rfl (lv_at hl 0 rfl) ?_
  refine va_get (D := D) (ci := 4) (v := .ref (ad 1)) (C := RX4) (T := TX4) (N := 4) hx hb hts hiX4 hown hK hP 11 wXg11 rfl 0 (by decide) (hts (.fieldLink RX4 9 "ArcGuesser$Measures" "net" "LArcGuesser$Net;") (List.mem_of_getElem? (i := 1) rfl)) (fun _ h9 => h9) rfl dX4_waysOfTwo_10 ?_
  refine va_getN (D := D) (ci := 6) (v := .ref (ad 10)) (C := RX6) (T := TX6) (N := 13) hx hb hts hiX6 hown hK hP 1 wXg1 rfl 12 (by decide) (va_Nw.use rfl (hN (.fieldLinkNest RX4 56 "ArcGuesser$Net" "in" "[I" "ArcGuesser") (List.mem_of_getElem? (i := 21) rfl))) (fun _ h9 => h9) rfl dX4_waysOfTwo_13 ?_
  refine lv_iload_n hx hb dX4_waysOfTwo_16 rfl (lv_at hl 2 rfl) ?_
  refine va_iald hx hb hK hP 10 0 wXg10 rfl hq.1 dX4_waysOfTwo_17 ?_
  have hq := hq.2
  refine lv_iand hx hb dX4_waysOfTwo_18 ?_
  refine w_calli (va_runS (As := [.int ((σ.1 9 (p1).toNatClampNeg) &&& (σ.1 10 (p2).toNatClampNeg))]) (rest := []) ⟨hx, hb, hml, hown, hts⟩ (mtJ6_bitCount_0f7a4 l D (wX ad cA) (tyX cA) nwX A σ ((σ.1 9 (p1).toNatClampNeg) &&& (σ.1 10 (p2).toNatClampNeg)) _ hq) (va_cwS 1 hts gX4_waysOfTwo_J6_bitCount_0f7a4 rfl rfl rfl (by decide +kernel) ⟨Nat.le_of_ble_eq_true rfl, Nat.le_of_ble_eq_true rfl⟩) ⟨stW_blind nwX_ok, stW_pass hA hS hN hK hP hD nwX_ok⟩ rfl rfl hl.1 rfl (lv_room (Nat.le_of_ble_eq_true rfl)) dX4_waysOfTwo_19 ⟨Nat.le_of_ble_eq_true rfl, Nat.le_of_ble_eq_true rfl⟩) hS (fun r1 σ1 H locs hq hP hD hS => ?_)
  exact W.iret (v := r1) hx hb hr (fun t ht hW => ⟨⟨r1, σ1, rfl, hq, by rw [ht]; exact hP, hD⟩, hS.F ht⟩) hS.2.2 dX4_waysOfTwo_22
/-! ArcGuesser$Measures.waysOfThree(II)I -/
def X4_waysOfThree_b5 (p1 : Int32) (p2 : Int32) (K5 : Sto → Int32 → Int32 → Prop) (Post : Int32 → Sto → Prop) (σ : Sto) (v3 : Int32) (v4 : Int32) : Prop :=
  (((σ.1 1 0) ≤ v4 → (Post v3 σ)) ∧ (¬ (σ.1 1 0) ≤ v4 → (vp_in p1 12 ∧ (X6_has_wp σ (σ.1 9 (p1).toNatClampNeg) v4 (fun r1 σ1 => ((r1 = 0 → (K5 σ1 v3 (v4 + (1 : Int32)))) ∧ (¬ r1 = 0 → (X4_waysOfTwo_wp σ1 v4 p2 (fun r2 σ2 => (K5 σ2 (v3 + r2) (v4 + (1 : Int32))))))))))))
def X4_waysOfThree_wp (σ : Sto) (p1 : Int32) (p2 : Int32) (Post : Int32 → Sto → Prop) : Prop := ∀ (K5 : Sto → Int32 → Int32 → Prop), (∀ (σ : Sto) (v3 : Int32) (v4 : Int32), X4_waysOfThree_b5 p1 p2 K5 Post σ v3 v4 → K5 σ v3 v4) → 
  (K5 σ (0 : Int32) (0 : Int32))
set_option maxHeartbeats 4000000 in
set_option maxRecDepth 100000 in
theorem mtX4_waysOfThree (l : Launch) (D : va_G) (ad : Nat → Nat) (cA : Nat → ClassId) (A : Nat → Prop) (σ : Sto) (p1 : Int32) (p2 : Int32) (Post : Int32 → Sto → Prop) (hwp : X4_waysOfThree_wp σ p1 p2 Post) : Met l yX4_waysOfThree wsX4_waysOfThree ({ frames := 2, cells := 0, slots := 0, locals := 42 }) (va_Pc [.ref (ad 11), .int p1, .int p2] (stW D (tyX cA) nwX (wX ad cA) A σ)) (va_Qi Post (enW D (wX ad cA) A) A) 0 0 A := by
  refine Met.ofW (cc := cX4_waysOfThree) (maxL := 5) (ret := (some .int)) (by decide) rfl ?_
  intro p e s m args below meth c s₁ B hml hv
  obtain ⟨rfl, hA, hN, hP, hK, hD⟩ := hv
  have hx := B.exec
  have hb := B.bytes
  have hr := B.returns
  have hts := atoms_spec (ws := wsX4_waysOfThree) B.pre
  have hown : s.vm.findClass RX4 = some m.cls := findClass_of_methodNamed B.named
  have hlocks := B.notSynchronized
  have hiX4 : ∀ w ∈ wsX40, w ∈ wsX4_waysOfThree := by decide +kernel
  have hiX6 : ∀ w ∈ wsX60, w ∈ wsX4_waysOfThree := by decide +kernel
  have hS : va_S A s.heap s.heap [] := va_S.rf
  have hl := lv_entry ([.ref (ad 11), .int p1, .int p2]) (n := 5) (Nat.le_of_ble_eq_true rfl)
  rw [lg_entry_eq]
  generalize (lg_sl ([.ref (ad 11), .int p1, .int p2]) ++ List.replicate (5 - (lg_sl ([.ref (ad 11), .int p1, .int p2])).length) Slot.unset).toArray = ls at hl ⊢
  have hl : lv_has ls 5 [(0, .ref (ad 11)), (1, .int p1), (2, .int p2)] := hl
  obtain ⟨K5, hK5⟩ : ∃ K : Sto → Int32 → Int32 → Prop, K = fun (σ : Sto) (v3 : Int32) (v4 : Int32) => ∀ (H : Heap) (locs : List Loc) (ls : Array Slot), va_P D vwCl ((wX ad cA) σ) H → va_D A ((wX ad cA) σ) → va_S A s.heap H locs → lv_has ls 5 [(0, .ref (ad 11)), (1, .int p1), (2, .int p2), (3, .int v3), (4, .int v4)] → W p l e (headSpec wsX4_waysOfThree ({ frames := 2, cells := 0, slots := 0, locals := 42 })).room s m ([.ref (ad 11), .int p1, .int p2] : List Value).toArray below meth c H locs 0 0 (MQ below (va_Qi Post (enW D (wX ad cA) A) A) ([.ref (ad 11), .int p1, .int p2] : List Value).toArray s 0 0 A) (F0 m 5 ls []) := ⟨_, rfl⟩
  have hk5 : ∀ (σ : Sto) (v3 : Int32) (v4 : Int32), X4_waysOfThree_b5 p1 p2 K5 Post σ v3 v4 → K5 σ v3 v4 := by
    intro σ v3 v4 hq
    rw [hK5]
    intro H locs ls hP hD hS hl
    unfold X4_waysOfThree_b5 at hq
    refine lv_iload hx hb dX4_waysOfThree_5 (lv_at hl 4 rfl) ?_
    refine lv_aload_n hx hb dX4_waysOfThree_7 rfl (lv_at hl 0 rfl) ?_
    refine va_get (D := D) (ci := 4) (v := .ref (ad 1)) (C := RX4) (T := TX4) (N := 4) hx hb hts hiX4 hown hK hP 11 wXg11 rfl 0 (by decide) (hts (.fieldLink RX4 9 "ArcGuesser$Measures" "net" "LArcGuesser$Net;") (List.mem_of_getElem? (i := 1) rfl)) (fun _ h9 => h9) rfl dX4_waysOfThree_8 ?_
    refine va_getN (D := D) (ci := 6) (v := .int (σ.1 1 0)) (C := RX6) (T := TX6) (N := 13) hx hb hts hiX6 hown hK hP 1 wXg1 rfl 0 (by decide) (va_Nw.use rfl (hN (.fieldLinkNest RX4 90 "ArcGuesser$Net" "nodes" "I" "ArcGuesser") (List.mem_of_getElem? (i := 23) rfl))) (fun _ h9 => h9) rfl dX4_waysOfThree_11 ?_
    refine lv_icmp_ge (tgt := 50) hx hb dX4_waysOfThree_14 (by decide) (fun hc => ?_) (fun hc => ?_)
    · have hq := hq.1 hc
      refine lv_iload_n hx hb dX4_waysOfThree_50 rfl (lv_at hl 3 rfl) ?_
      exact W.iret (v := v3) hx hb hr (fun t ht hW => ⟨⟨v3, σ, rfl, hq, by rw [ht]; exact hP, hD⟩, hS.F ht⟩) hS.2.2 dX4_waysOfThree_51
    · have hq := hq.2 hc
      refine lv_aload_n hx hb dX4_waysOfThree_17 rfl (lv_at hl 0 rfl) ?_
      refine va_get (D := D) (ci := 4) (v := .ref (ad 1)) (C := RX4) (T := TX4) (N := 4) hx hb hts hiX4 hown hK hP 11 wXg11 rfl 0 (by decide) (hts (.fieldLink RX4 9 "ArcGuesser$Measures" "net" "LArcGuesser$Net;") (List.mem_of_getElem? (i := 1) rfl)) (fun _ h9 => h9) rfl dX4_waysOfThree_18 ?_
      refine va_getN (D := D) (ci := 6) (v := .ref (ad 9)) (C := RX6) (T := TX6) (N := 13) hx hb hts hiX6 hown hK hP 1 wXg1 rfl 11 (by decide) (va_Nw.use rfl (hN (.fieldLinkNest RX4 34 "ArcGuesser$Net" "out" "[I" "ArcGuesser") (List.mem_of_getElem? (i := 20) rfl))) (fun _ h9 => h9) rfl dX4_waysOfThree_21 ?_
      refine lv_iload_n hx hb dX4_waysOfThree_24 rfl (lv_at hl 1 rfl) ?_
      refine va_iald hx hb hK hP 9 0 wXg9 rfl hq.1 dX4_waysOfThree_25 ?_
      have hq := hq.2
      refine lv_iload hx hb dX4_waysOfThree_26 (lv_at hl 4 rfl) ?_
      refine w_calli (va_runSN (As := [.int (σ.1 9 (p1).toNatClampNeg), .int v4]) (rest := []) ⟨hx, hb, hml, hown, hts⟩ (mtX6_has l D ad cA A σ (σ.1 9 (p1).toNatClampNeg) v4 _ hq) ⟨va_cnB 2 hts ggX4_waysOfThree_X6_has rfl rfl rfl (hN (.methodLinkNest RX4 93 yX6_has "ArcGuesser") (List.mem_of_getElem? (i := 66) rfl)) (hts (.initialized RX6) (List.mem_of_getElem? (i := 3) rfl)) (by decide +kernel) ⟨Nat.le_of_ble_eq_true rfl, Nat.le_of_ble_eq_true rfl⟩, hts (.static yX6_has) (List.mem_of_getElem? (i := 2) rfl), trivial⟩ ⟨stW_blind nwX_ok, stW_pass hA hS hN hK hP hD nwX_ok⟩ rfl rfl hl.1 rfl (lv_room (Nat.le_of_ble_eq_true rfl)) dX4_waysOfThree_28 ⟨Nat.le_of_ble_eq_true rfl, Nat.le_of_ble_eq_true rfl⟩) hS (fun r1 σ1 H locs hq hP hD hS => ?_)
      refine lv_if_eq (tgt := 44) hx hb dX4_waysOfThree_31 (by decide) (fun hc => ?_) (fun hc => ?_)
      · have hq := hq.1 hc
        refine lv_iinc (v := (v4 + (1 : Int32))) (lv' := [(4, .int (v4 + (1 : Int32))), (0, .ref (ad 11)), (1, .int p1), (2, .int p2), (3, .int v3)]) hx hb dX4_waysOfThree_44 hl (k := 4) rfl (by rfl) (by decide) rfl (fun ls hl => ?_)
        refine lv_goto (tgt := 5) hx hb dX4_waysOfThree_47 (by decide) ?_
        rw [hK5] at hq
        exact hq _ _ _ hP hD hS (lv_sub hl [1, 2, 3, 4, 0] rfl)
      · have hq := hq.2 hc
        refine lv_iload_n hx hb dX4_waysOfThree_34 rfl (lv_at hl 3 rfl) ?_
        refine lv_aload_n hx hb dX4_waysOfThree_35 rfl (lv_at hl 0 rfl) ?_
        refine lv_iload hx hb dX4_waysOfThree_36 (lv_at hl 4 rfl) ?_
        refine lv_iload_n hx hb dX4_waysOfThree_38 rfl (lv_at hl 2 rfl) ?_
        refine w_calli (va_runV (As := [.int v4, .int p2]) (rest := [.int v3]) ⟨hx, hb, hml, hown, hts⟩ (mtX4_waysOfTwo l D ad cA A σ1 v4 p2 _ hq) (cwV 2 hts gX4_waysOfThree_X4_waysOfTwo rfl rfl rfl (by decide +kernel) ⟨Nat.le_of_ble_eq_true rfl, Nat.le_of_ble_eq_true rfl⟩) ⟨stW_blind nwX_ok, va_recv hK hP (ci := 4) (q0 := 11) rfl wXg11, stW_pass hA hS hN hK hP hD nwX_ok⟩ rfl rfl hl.1 rfl (lv_room (Nat.le_of_ble_eq_true rfl)) dX4_waysOfThree_39 ⟨Nat.le_of_ble_eq_true rfl, Nat.le_of_ble_eq_true rfl⟩) hS (fun r2 σ2 H locs hq hP hD hS => ?_)
        refine lv_iadd hx hb dX4_waysOfThree_42 ?_
        refine lv_istore_n (lv' := [(3, .int (v3 + r2)), (0, .ref (ad 11)), (1, .int p1), (2, .int p2), (4, .int v4)]) hx hb dX4_waysOfThree_43 rfl hl (by decide) rfl (fun ls hl => ?_)
        refine lv_iinc (v := (v4 + (1 : Int32))) (lv' := [(4, .int (v4 + (1 : Int32))), (3, .int (v3 + r2)), (0, .ref (ad 11)), (1, .int p1), (2, .int p2)]) hx hb dX4_waysOfThree_44 hl (k := 4) rfl (by rfl) (by decide) rfl (fun ls hl => ?_)
        refine lv_goto (tgt := 5) hx hb dX4_waysOfThree_47 (by decide) ?_
        rw [hK5] at hq
        exact hq _ _ _ hP hD hS (lv_sub hl [2, 3, 4, 1, 0] rfl)
  have hq := hwp K5 hk5
  refine lv_iconst (v := (0 : Int32)) hx hb dX4_waysOfThree_0 (by decide) ?_
  refine lv_istore_n (lv' := [(3, .int (0 : Int32)), (0, .ref (ad 11)), (1, .int p1), (2, .int p2)]) hx hb dX4_waysOfThree_1 rfl hl (by decide) rfl (fun ls hl => ?_)
  refine lv_iconst (v := (0 : Int32)) hx hb dX4_waysOfThree_2 (by decide) ?_
  refine lv_istore (lv' := [(4, .int (0 : Int32)), (3, .int (0 : Int32)), (0, .ref (ad 11)), (1, .int p1), (2, .int p2)]) hx hb dX4_waysOfThree_3 hl (by decide) rfl (fun ls hl => ?_)
  rw [hK5] at hq
  exact hq _ _ _ hP hD hS (lv_sub hl [2, 3, 4, 1, 0] rfl)
/-! ArcGuesser$Measures.leastArcs(II)I -/
def X4_leastArcs_b13 (p1 : Int32) (p2 : Int32) (K13 : Sto → Int32 → Int32 → Prop) (Post : Int32 → Sto → Prop) (σ : Sto) (v3 : Int32) (v4 : Int32) : Prop :=
  (((σ.1 1 0) ≤ v4 → (Post (0 : Int32) σ)) ∧ (¬ (σ.1 1 0) ≤ v4 → (X6_has_wp σ v3 p2 (fun r1 σ1 => ((r1 = 0 → (X6_leadsFrom_wp σ1 v3 (fun r2 σ2 => (K13 σ2 (v3 ||| r2) (v4 + (1 : Int32)))))) ∧ (¬ r1 = 0 → (Post v4 σ1)))))))
def X4_leastArcs_wp (σ : Sto) (p1 : Int32) (p2 : Int32) (Post : Int32 → Sto → Prop) : Prop := ∀ (K13 : Sto → Int32 → Int32 → Prop), (∀ (σ : Sto) (v3 : Int32) (v4 : Int32), X4_leastArcs_b13 p1 p2 K13 Post σ v3 v4 → K13 σ v3 v4) → 
  (vp_in p1 12 ∧ (K13 σ (σ.1 9 (p1).toNatClampNeg) (1 : Int32)))
set_option maxHeartbeats 4000000 in
set_option maxRecDepth 100000 in
theorem mtX4_leastArcs (l : Launch) (D : va_G) (ad : Nat → Nat) (cA : Nat → ClassId) (A : Nat → Prop) (σ : Sto) (p1 : Int32) (p2 : Int32) (Post : Int32 → Sto → Prop) (hwp : X4_leastArcs_wp σ p1 p2 Post) : Met l yX4_leastArcs wsX4_leastArcs ({ frames := 2, cells := 0, slots := 0, locals := 44 }) (va_Pc [.ref (ad 11), .int p1, .int p2] (stW D (tyX cA) nwX (wX ad cA) A σ)) (va_Qi Post (enW D (wX ad cA) A) A) 0 0 A := by
  refine Met.ofW (cc := cX4_leastArcs) (maxL := 5) (ret := (some .int)) (by decide) rfl ?_
  intro p e s m args below meth c s₁ B hml hv
  obtain ⟨rfl, hA, hN, hP, hK, hD⟩ := hv
  have hx := B.exec
  have hb := B.bytes
  have hr := B.returns
  have hts := atoms_spec (ws := wsX4_leastArcs) B.pre
  have hown : s.vm.findClass RX4 = some m.cls := findClass_of_methodNamed B.named
  have hlocks := B.notSynchronized
  have hiX4 : ∀ w ∈ wsX40, w ∈ wsX4_leastArcs := by decide +kernel
  have hiX6 : ∀ w ∈ wsX60, w ∈ wsX4_leastArcs := by decide +kernel
  have hS : va_S A s.heap s.heap [] := va_S.rf
  have hl := lv_entry ([.ref (ad 11), .int p1, .int p2]) (n := 5) (Nat.le_of_ble_eq_true rfl)
  rw [lg_entry_eq]
  generalize (lg_sl ([.ref (ad 11), .int p1, .int p2]) ++ List.replicate (5 - (lg_sl ([.ref (ad 11), .int p1, .int p2])).length) Slot.unset).toArray = ls at hl ⊢
  have hl : lv_has ls 5 [(0, .ref (ad 11)), (1, .int p1), (2, .int p2)] := hl
  obtain ⟨K13, hK13⟩ : ∃ K : Sto → Int32 → Int32 → Prop, K = fun (σ : Sto) (v3 : Int32) (v4 : Int32) => ∀ (H : Heap) (locs : List Loc) (ls : Array Slot), va_P D vwCl ((wX ad cA) σ) H → va_D A ((wX ad cA) σ) → va_S A s.heap H locs → lv_has ls 5 [(0, .ref (ad 11)), (2, .int p2), (3, .int v3), (4, .int v4)] → W p l e (headSpec wsX4_leastArcs ({ frames := 2, cells := 0, slots := 0, locals := 44 })).room s m ([.ref (ad 11), .int p1, .int p2] : List Value).toArray below meth c H locs 0 0 (MQ below (va_Qi Post (enW D (wX ad cA) A) A) ([.ref (ad 11), .int p1, .int p2] : List Value).toArray s 0 0 A) (F0 m 13 ls []) := ⟨_, rfl⟩
  have hk13 : ∀ (σ : Sto) (v3 : Int32) (v4 : Int32), X4_leastArcs_b13 p1 p2 K13 Post σ v3 v4 → K13 σ v3 v4 := by
    intro σ v3 v4 hq
    rw [hK13]
    intro H locs ls hP hD hS hl
    unfold X4_leastArcs_b13 at hq
    refine lv_iload hx hb dX4_leastArcs_13 (lv_at hl 3 rfl) ?_
    refine lv_aload_n hx hb dX4_leastArcs_15 rfl (lv_at hl 0 rfl) ?_
    refine va_get (D := D) (ci := 4) (v := .ref (ad 1)) (C := RX4) (T := TX4) (N := 4) hx hb hts hiX4 hown hK hP 11 wXg11 rfl 0 (by decide) (hts (.fieldLink RX4 9 "ArcGuesser$Measures" "net" "LArcGuesser$Net;") (List.mem_of_getElem? (i := 1) rfl)) (fun _ h9 => h9) rfl dX4_leastArcs_16 ?_
    refine va_getN (D := D) (ci := 6) (v := .int (σ.1 1 0)) (C := RX6) (T := TX6) (N := 13) hx hb hts hiX6 hown hK hP 1 wXg1 rfl 0 (by decide) (va_Nw.use rfl (hN (.fieldLinkNest RX4 90 "ArcGuesser$Net" "nodes" "I" "ArcGuesser") (List.mem_of_getElem? (i := 23) rfl))) (fun _ h9 => h9) rfl dX4_leastArcs_19 ?_
    refine lv_icmp_ge (tgt := 53) hx hb dX4_leastArcs_22 (by decide) (fun hc => ?_) (fun hc => ?_)
    · have hq := hq.1 hc
      refine lv_iconst (v := (0 : Int32)) hx hb dX4_leastArcs_53 (by decide) ?_
      exact W.iret (v := (0 : Int32)) hx hb hr (fun t ht hW => ⟨⟨(0 : Int32), σ, rfl, hq, by rw [ht]; exact hP, hD⟩, hS.F ht⟩) hS.2.2 dX4_leastArcs_54
    · have hq := hq.2 hc
      refine lv_iload_n hx hb dX4_leastArcs_25 rfl (lv_at hl 2 rfl) ?_
      refine lv_iload_n hx hb dX4_leastArcs_26 rfl (lv_at hl 1 rfl) ?_
      refine w_calli (va_runSN (As := [.int v3, .int p2]) (rest := []) ⟨hx, hb, hml, hown, hts⟩ (mtX6_has l D ad cA A σ v3 p2 _ hq) ⟨va_cnB 2 hts ggX4_leastArcs_X6_has rfl rfl rfl (hN (.methodLinkNest RX4 93 yX6_has "ArcGuesser") (List.mem_of_getElem? (i := 66) rfl)) (hts (.initialized RX6) (List.mem_of_getElem? (i := 3) rfl)) (by decide +kernel) ⟨Nat.le_of_ble_eq_true rfl, Nat.le_of_ble_eq_true rfl⟩, hts (.static yX6_has) (List.mem_of_getElem? (i := 2) rfl), trivial⟩ ⟨stW_blind nwX_ok, stW_pass hA hS hN hK hP hD nwX_ok⟩ rfl rfl hl.1 rfl (lv_room (Nat.le_of_ble_eq_true rfl)) dX4_leastArcs_27 ⟨Nat.le_of_ble_eq_true rfl, Nat.le_of_ble_eq_true rfl⟩) hS (fun r1 σ1 H locs hq hP hD hS => ?_)
      refine lv_if_eq (tgt := 36) hx hb dX4_leastArcs_30 (by decide) (fun hc => ?_) (fun hc => ?_)
      · have hq := hq.1 hc
        refine lv_iload_n hx hb dX4_leastArcs_36 rfl (lv_at hl 2 rfl) ?_
        refine lv_aload_n hx hb dX4_leastArcs_37 rfl (lv_at hl 0 rfl) ?_
        refine va_get (D := D) (ci := 4) (v := .ref (ad 1)) (C := RX4) (T := TX4) (N := 4) hx hb hts hiX4 hown hK hP 11 wXg11 rfl 0 (by decide) (hts (.fieldLink RX4 9 "ArcGuesser$Measures" "net" "LArcGuesser$Net;") (List.mem_of_getElem? (i := 1) rfl)) (fun _ h9 => h9) rfl dX4_leastArcs_38 ?_
        refine lv_iload_n hx hb dX4_leastArcs_41 rfl (lv_at hl 2 rfl) ?_
        refine w_calli (va_runVN (As := [.int v3]) (rest := [.int v3]) ⟨hx, hb, hml, hown, hts⟩ (mtX6_leadsFrom l D ad cA A σ1 v3 _ hq) ⟨va_cnB 1 hts ggX4_leastArcs_X6_leadsFrom rfl rfl rfl (hN (.methodLinkNest RX4 97 yX6_leadsFrom "ArcGuesser") (List.mem_of_getElem? (i := 67) rfl)) (hts (.initialized RX6) (List.mem_of_getElem? (i := 3) rfl)) (by decide +kernel) ⟨Nat.le_of_ble_eq_true rfl, Nat.le_of_ble_eq_true rfl⟩, hts (.instanceMethod yX6_leadsFrom) (List.mem_of_getElem? (i := 5) rfl), hts (.selects RX6 yX6_leadsFrom yX6_leadsFrom) (List.mem_of_getElem? (i := 6) rfl)⟩ ⟨stW_blind nwX_ok, va_recv hK hP (ci := 6) (q0 := 1) rfl wXg1, stW_pass hA hS hN hK hP hD nwX_ok⟩ rfl rfl hl.1 rfl (lv_room (Nat.le_of_ble_eq_true rfl)) dX4_leastArcs_42 ⟨Nat.le_of_ble_eq_true rfl, Nat.le_of_ble_eq_true rfl⟩) hS (fun r2 σ2 H locs hq hP hD hS => ?_)
        refine lv_ior hx hb dX4_leastArcs_45 ?_
        refine lv_istore_n (lv' := [(3, .int (v3 ||| r2)), (0, .ref (ad 11)), (2, .int p2), (4, .int v4)]) hx hb dX4_leastArcs_46 rfl hl (by decide) rfl (fun ls hl => ?_)
        refine lv_iinc (v := (v4 + (1 : Int32))) (lv' := [(4, .int (v4 + (1 : Int32))), (3, .int (v3 ||| r2)), (0, .ref (ad 11)), (2, .int p2)]) hx hb dX4_leastArcs_47 hl (k := 3) rfl (by rfl) (by decide) rfl (fun ls hl => ?_)
        refine lv_goto (tgt := 13) hx hb dX4_leastArcs_50 (by decide) ?_
        rw [hK13] at hq
        exact hq _ _ _ hP hD hS (lv_sub hl [2, 3, 1, 0] rfl)
      · have hq := hq.2 hc
        refine lv_iload hx hb dX4_leastArcs_33 (lv_at hl 3 rfl) ?_
        exact W.iret (v := v4) hx hb hr (fun t ht hW => ⟨⟨v4, σ1, rfl, hq, by rw [ht]; exact hP, hD⟩, hS.F ht⟩) hS.2.2 dX4_leastArcs_35
  have hq := hwp K13 hk13
  refine lv_aload_n hx hb dX4_leastArcs_0 rfl (lv_at hl 0 rfl) ?_
  refine va_get (D := D) (ci := 4) (v := .ref (ad 1)) (C := RX4) (T := TX4) (N := 4) hx hb hts hiX4 hown hK hP 11 wXg11 rfl 0 (by decide) (hts (.fieldLink RX4 9 "ArcGuesser$Measures" "net" "LArcGuesser$Net;") (List.mem_of_getElem? (i := 1) rfl)) (fun _ h9 => h9) rfl dX4_leastArcs_1 ?_
  refine va_getN (D := D) (ci := 6) (v := .ref (ad 9)) (C := RX6) (T := TX6) (N := 13) hx hb hts hiX6 hown hK hP 1 wXg1 rfl 11 (by decide) (va_Nw.use rfl (hN (.fieldLinkNest RX4 34 "ArcGuesser$Net" "out" "[I" "ArcGuesser") (List.mem_of_getElem? (i := 20) rfl))) (fun _ h9 => h9) rfl dX4_leastArcs_4 ?_
  refine lv_iload_n hx hb dX4_leastArcs_7 rfl (lv_at hl 1 rfl) ?_
  refine va_iald hx hb hK hP 9 0 wXg9 rfl hq.1 dX4_leastArcs_8 ?_
  have hq := hq.2
  refine lv_istore_n (lv' := [(3, .int (σ.1 9 (p1).toNatClampNeg)), (0, .ref (ad 11)), (1, .int p1), (2, .int p2)]) hx hb dX4_leastArcs_9 rfl hl (by decide) rfl (fun ls hl => ?_)
  refine lv_iconst (v := (1 : Int32)) hx hb dX4_leastArcs_10 (by decide) ?_
  refine lv_istore (lv' := [(4, .int (1 : Int32)), (3, .int (σ.1 9 (p1).toNatClampNeg)), (0, .ref (ad 11)), (1, .int p1), (2, .int p2)]) hx hb dX4_leastArcs_11 hl (by decide) rfl (fun ls hl => ?_)
  rw [hK13] at hq
  exact hq _ _ _ hP hD hS (lv_sub hl [2, 4, 1, 0] rfl)
/-! ArcGuesser$Measures.wander(II)J -/
def X4_wander_b74 (p1 : Int32) (p2 : Int32) (K74 : Sto → Int32 → Int32 → Int64 → Int32 → Prop) (Post : Int64 → Sto → Prop) (σ : Sto) (v3 : Int32) (v4 : Int32) (v5 : Int64) (v7 : Int32) : Prop :=
  (((σ.1 1 0) ≤ v7 → (Post v5 σ)) ∧ (¬ (σ.1 1 0) ≤ v7 → (X6_has_wp σ v4 v7 (fun r1 σ1 => ((r1 = 0 → (K74 σ1 v3 v4 v5 (v7 + (1 : Int32)))) ∧ (¬ r1 = 0 → (vp_in v7 12 ∧ (J6_bitCount_0f7a4_wp σ1 (σ1.1 9 (v7).toNatClampNeg) (fun r2 σ2 => (X4_fraction_wp σ2 (1 : Int32) (v3 * r2) (fun r3 σ3 => (K74 σ3 v3 v4 (v5 + r3) (v7 + (1 : Int32))))))))))))))
def X4_wander_wp (σ : Sto) (p1 : Int32) (p2 : Int32) (Post : Int64 → Sto → Prop) : Prop := ∀ (K74 : Sto → Int32 → Int32 → Int64 → Int32 → Prop), (∀ (σ : Sto) (v3 : Int32) (v4 : Int32) (v5 : Int64) (v7 : Int32), X4_wander_b74 p1 p2 K74 Post σ v3 v4 v5 v7 → K74 σ v3 v4 v5 v7) → 
  (vp_in p1 12 ∧ (J6_bitCount_0f7a4_wp σ (σ.1 9 (p1).toNatClampNeg) (fun r1 σ1 => ((¬ (σ1.1 11 3) = (1 : Int32) → (vp_in p1 12 ∧ (vp_in p2 12 ∧ (K74 σ1 r1 ((σ1.1 9 (p1).toNatClampNeg) &&& (σ1.1 10 (p2).toNatClampNeg)) (0 : Int64) (0 : Int32))))) ∧ ((σ1.1 11 3) = (1 : Int32) → (vp_in p1 12 ∧ (X6_has_wp σ1 (σ1.1 9 (p1).toNatClampNeg) p2 (fun r2 σ2 => ((r2 = 0 → (Post (0 : Int64) σ2)) ∧ (¬ r2 = 0 → (X4_fraction_wp σ2 (1 : Int32) r1 (fun r3 σ3 => (Post r3 σ3)))))))))))))
set_option maxHeartbeats 4000000 in
set_option maxRecDepth 100000 in
theorem mtX4_wander (l : Launch) (D : va_G) (ad : Nat → Nat) (cA : Nat → ClassId) (A : Nat → Prop) (σ : Sto) (p1 : Int32) (p2 : Int32) (Post : Int64 → Sto → Prop) (hwp : X4_wander_wp σ p1 p2 Post) : Met l yX4_wander wsX4_wander ({ frames := 1, cells := 0, slots := 0, locals := 21 }) (va_Pc [.ref (ad 11), .int p1, .int p2] (stW D (tyX cA) nwX (wX ad cA) A σ)) (va_Ql Post (enW D (wX ad cA) A) A) 0 0 A := by
  refine Met.ofW (cc := cX4_wander) (maxL := 8) (ret := (some .long)) (by decide) rfl ?_
  intro p e s m args below meth c s₁ B hml hv
  obtain ⟨rfl, hA, hN, hP, hK, hD⟩ := hv
  have hx := B.exec
  have hb := B.bytes
  have hr := B.returns
  have hts := atoms_spec (ws := wsX4_wander) B.pre
  have hown : s.vm.findClass RX4 = some m.cls := findClass_of_methodNamed B.named
  have hlocks := B.notSynchronized
  have hiX4 : ∀ w ∈ wsX40, w ∈ wsX4_wander := by decide +kernel
  have hiX6 : ∀ w ∈ wsX60, w ∈ wsX4_wander := by decide +kernel
  have hS : va_S A s.heap s.heap [] := va_S.rf
  have hl := lv_entry ([.ref (ad 11), .int p1, .int p2]) (n := 8) (Nat.le_of_ble_eq_true rfl)
  rw [lg_entry_eq]
  generalize (lg_sl ([.ref (ad 11), .int p1, .int p2]) ++ List.replicate (8 - (lg_sl ([.ref (ad 11), .int p1, .int p2])).length) Slot.unset).toArray = ls at hl ⊢
  have hl : lv_has ls 8 [(0, .ref (ad 11)), (1, .int p1), (2, .int p2)] := hl
  obtain ⟨K74, hK74⟩ : ∃ K : Sto → Int32 → Int32 → Int64 → Int32 → Prop, K = fun (σ : Sto) (v3 : Int32) (v4 : Int32) (v5 : Int64) (v7 : Int32) => ∀ (H : Heap) (locs : List Loc) (ls : Array Slot), va_P D vwCl ((wX ad cA) σ) H → va_D A ((wX ad cA) σ) → va_S A s.heap H locs → lv_has ls 8 [(0, .ref (ad 11)), (3, .int v3), (4, .int v4), (5, .long v5), (7, .int v7)] → W p l e (headSpec wsX4_wander ({ frames := 1, cells := 0, slots := 0, locals := 21 })).room s m ([.ref (ad 11), .int p1, .int p2] : List Value).toArray below meth c H locs 0 0 (MQ below (va_Ql Post (enW D (wX ad cA) A) A) ([.ref (ad 11), .int p1, .int p2] : List Value).toArray s 0 0 A) (F0 m 74 ls []) := ⟨_, rfl⟩
  have hk74 : ∀ (σ : Sto) (v3 : Int32) (v4 : Int32) (v5 : Int64) (v7 : Int32), X4_wander_b74 p1 p2 K74 Post σ v3 v4 v5 v7 → K74 σ v3 v4 v5 v7 := by
    intro σ v3 v4 v5 v7 hq
    rw [hK74]
    intro H locs ls hP hD hS hl
    unfold X4_wander_b74 at hq
    refine lv_iload hx hb dX4_wander_74 (lv_at hl 4 rfl) ?_
    refine lv_aload_n hx hb dX4_wander_76 rfl (lv_at hl 0 rfl) ?_
    refine va_get (D := D) (ci := 4) (v := .ref (ad 1)) (C := RX4) (T := TX4) (N := 4) hx hb hts hiX4 hown hK hP 11 wXg11 rfl 0 (by decide) (hts (.fieldLink RX4 9 "ArcGuesser$Measures" "net" "LArcGuesser$Net;") (List.mem_of_getElem? (i := 1) rfl)) (fun _ h9 => h9) rfl dX4_wander_77 ?_
    refine va_getN (D := D) (ci := 6) (v := .int (σ.1 1 0)) (C := RX6) (T := TX6) (N := 13) hx hb hts hiX6 hown hK hP 1 wXg1 rfl 0 (by decide) (va_Nw.use rfl (hN (.fieldLinkNest RX4 90 "ArcGuesser$Net" "nodes" "I" "ArcGuesser") (List.mem_of_getElem? (i := 23) rfl))) (fun _ h9 => h9) rfl dX4_wander_80 ?_
    refine lv_icmp_ge (tgt := 126) hx hb dX4_wander_83 (by decide) (fun hc => ?_) (fun hc => ?_)
    · have hq := hq.1 hc
      refine lv_lload hx hb dX4_wander_126 (lv_at hl 3 rfl) ?_
      exact W.lret (v := v5) hx hb hr (fun t ht hW => ⟨⟨v5, σ, rfl, hq, by rw [ht]; exact hP, hD⟩, hS.F ht⟩) hS.2.2 dX4_wander_128
    · have hq := hq.2 hc
      refine lv_iload hx hb dX4_wander_86 (lv_at hl 2 rfl) ?_
      refine lv_iload hx hb dX4_wander_88 (lv_at hl 4 rfl) ?_
      refine w_calli (va_runSN (As := [.int v4, .int v7]) (rest := []) ⟨hx, hb, hml, hown, hts⟩ (mtX6_has l D ad cA A σ v4 v7 _ hq) ⟨va_cnB 2 hts ggX4_wander_X6_has rfl rfl rfl (hN (.methodLinkNest RX4 93 yX6_has "ArcGuesser") (List.mem_of_getElem? (i := 66) rfl)) (hts (.initialized RX6) (List.mem_of_getElem? (i := 11) rfl)) (by decide +kernel) ⟨Nat.le_of_ble_eq_true rfl, Nat.le_of_ble_eq_true rfl⟩, hts (.static yX6_has) (List.mem_of_getElem? (i := 10) rfl), trivial⟩ ⟨stW_blind nwX_ok, stW_pass hA hS hN hK hP hD nwX_ok⟩ rfl rfl hl.1 rfl (lv_room (Nat.le_of_ble_eq_true rfl)) dX4_wander_90 ⟨Nat.le_of_ble_eq_true rfl, Nat.le_of_ble_eq_true rfl⟩) hS (fun r1 σ1 H locs hq hP hD hS => ?_)
      refine lv_if_eq (tgt := 120) hx hb dX4_wander_93 (by decide) (fun hc => ?_) (fun hc => ?_)
      · have hq := hq.1 hc
        refine lv_iinc (v := (v7 + (1 : Int32))) (lv' := [(7, .int (v7 + (1 : Int32))), (0, .ref (ad 11)), (3, .int v3), (4, .int v4), (5, .long v5)]) hx hb dX4_wander_120 hl (k := 4) rfl (by rfl) (by decide) rfl (fun ls hl => ?_)
        refine lv_goto (tgt := 74) hx hb dX4_wander_123 (by decide) ?_
        rw [hK74] at hq
        exact hq _ _ _ hP hD hS (lv_sub hl [1, 2, 3, 4, 0] rfl)
      · have hq := hq.2 hc
        refine lv_lload hx hb dX4_wander_96 (lv_at hl 3 rfl) ?_
        refine lv_iconst (v := (1 : Int32)) hx hb dX4_wander_98 (by decide) ?_
        refine lv_iload_n hx hb dX4_wander_99 rfl (lv_at hl 1 rfl) ?_
        refine lv_aload_n hx hb dX4_wander_100 rfl (lv_at hl 0 rfl) ?_
        refine va_get (D := D) (ci := 4) (v := .ref (ad 1)) (C := RX4) (T := TX4) (N := 4) hx hb hts hiX4 hown hK hP 11 wXg11 rfl 0 (by decide) (hts (.fieldLink RX4 9 "ArcGuesser$Measures" "net" "LArcGuesser$Net;") (List.mem_of_getElem? (i := 1) rfl)) (fun _ h9 => h9) rfl dX4_wander_101 ?_
        refine va_getN (D := D) (ci := 6) (v := .ref (ad 9)) (C := RX6) (T := TX6) (N := 13) hx hb hts hiX6 hown hK hP 1 wXg1 rfl 11 (by decide) (va_Nw.use rfl (hN (.fieldLinkNest RX4 34 "ArcGuesser$Net" "out" "[I" "ArcGuesser") (List.mem_of_getElem? (i := 20) rfl))) (fun _ h9 => h9) rfl dX4_wander_104 ?_
        refine lv_iload hx hb dX4_wander_107 (lv_at hl 4 rfl) ?_
        refine va_iald hx hb hK hP 9 0 wXg9 rfl hq.1 dX4_wander_109 ?_
        have hq := hq.2
        refine w_calli (va_runS (As := [.int (σ1.1 9 (v7).toNatClampNeg)]) (rest := [.int v3, .int (1 : Int32), .long v5]) ⟨hx, hb, hml, hown, hts⟩ (mtJ6_bitCount_0f7a4 l D (wX ad cA) (tyX cA) nwX A σ1 (σ1.1 9 (v7).toNatClampNeg) _ hq) (va_cwS 1 hts gX4_wander_J6_bitCount_0f7a4 rfl rfl rfl (by decide +kernel) ⟨Nat.le_of_ble_eq_true rfl, Nat.le_of_ble_eq_true rfl⟩) ⟨stW_blind nwX_ok, stW_pass hA hS hN hK hP hD nwX_ok⟩ rfl rfl hl.1 rfl (lv_room (Nat.le_of_ble_eq_true rfl)) dX4_wander_110 ⟨Nat.le_of_ble_eq_true rfl, Nat.le_of_ble_eq_true rfl⟩) hS (fun r2 σ2 H locs hq hP hD hS => ?_)
        refine lv_imul hx hb dX4_wander_113 ?_
        refine w_calll (va_runS (As := [.int (1 : Int32), .int (v3 * r2)]) (rest := [.long v5]) ⟨hx, hb, hml, hown, hts⟩ (mtX4_fraction l D ad cA A σ2 (1 : Int32) (v3 * r2) _ hq) (va_cwS 2 hts gX4_wander_X4_fraction rfl rfl rfl (by decide +kernel) ⟨Nat.le_of_ble_eq_true rfl, Nat.le_of_ble_eq_true rfl⟩) ⟨stW_blind nwX_ok, stW_pass hA hS hN hK hP hD nwX_ok⟩ rfl rfl hl.1 rfl (lv_room (Nat.le_of_ble_eq_true rfl)) dX4_wander_114 ⟨Nat.le_of_ble_eq_true rfl, Nat.le_of_ble_eq_true rfl⟩) hS (fun r3 σ3 H locs hq hP hD hS => ?_)
        refine lv_ladd hx hb dX4_wander_117 ?_
        refine lv_lstore (lv' := [(5, .long (v5 + r3)), (0, .ref (ad 11)), (3, .int v3), (4, .int v4), (7, .int v7)]) hx hb dX4_wander_118 hl (by decide) rfl (fun ls hl => ?_)
        refine lv_iinc (v := (v7 + (1 : Int32))) (lv' := [(7, .int (v7 + (1 : Int32))), (5, .long (v5 + r3)), (0, .ref (ad 11)), (3, .int v3), (4, .int v4)]) hx hb dX4_wander_120 hl (k := 4) rfl (by rfl) (by decide) rfl (fun ls hl => ?_)
        refine lv_goto (tgt := 74) hx hb dX4_wander_123 (by decide) ?_
        rw [hK74] at hq
        exact hq _ _ _ hP hD hS (lv_sub hl [2, 3, 4, 1, 0] rfl)
  have hq := hwp K74 hk74
  refine lv_aload_n hx hb dX4_wander_0 rfl (lv_at hl 0 rfl) ?_
  refine va_get (D := D) (ci := 4) (v := .ref (ad 1)) (C := RX4) (T := TX4) (N := 4) hx hb hts hiX4 hown hK hP 11 wXg11 rfl 0 (by decide) (hts (.fieldLink RX4 9 "ArcGuesser$Measures" "net" "LArcGuesser$Net;") (List.mem_of_getElem? (i := 1) rfl)) (fun _ h9 => h9) rfl dX4_wander_1 ?_
  refine va_getN (D := D) (ci := 6) (v := .ref (ad 9)) (C := RX6) (T := TX6) (N := 13) hx hb hts hiX6 hown hK hP 1 wXg1 rfl 11 (by decide) (va_Nw.use rfl (hN (.fieldLinkNest RX4 34 "ArcGuesser$Net" "out" "[I" "ArcGuesser") (List.mem_of_getElem? (i := 20) rfl))) (fun _ h9 => h9) rfl dX4_wander_4 ?_
  refine lv_iload_n hx hb dX4_wander_7 rfl (lv_at hl 1 rfl) ?_
  refine va_iald hx hb hK hP 9 0 wXg9 rfl hq.1 dX4_wander_8 ?_
  have hq := hq.2
  refine w_calli (va_runS (As := [.int (σ.1 9 (p1).toNatClampNeg)]) (rest := []) ⟨hx, hb, hml, hown, hts⟩ (mtJ6_bitCount_0f7a4 l D (wX ad cA) (tyX cA) nwX A σ (σ.1 9 (p1).toNatClampNeg) _ hq) (va_cwS 1 hts gX4_wander_J6_bitCount_0f7a4 rfl rfl rfl (by decide +kernel) ⟨Nat.le_of_ble_eq_true rfl, Nat.le_of_ble_eq_true rfl⟩) ⟨stW_blind nwX_ok, stW_pass hA hS hN hK hP hD nwX_ok⟩ rfl rfl hl.1 rfl (lv_room (Nat.le_of_ble_eq_true rfl)) dX4_wander_9 ⟨Nat.le_of_ble_eq_true rfl, Nat.le_of_ble_eq_true rfl⟩) hS (fun r1 σ1 H locs hq hP hD hS => ?_)
  refine lv_istore_n (lv' := [(3, .int r1), (0, .ref (ad 11)), (1, .int p1), (2, .int p2)]) hx hb dX4_wander_12 rfl hl (by decide) rfl (fun ls hl => ?_)
  refine lv_aload_n hx hb dX4_wander_13 rfl (lv_at hl 1 rfl) ?_
  refine va_get (D := D) (ci := 4) (v := .int (σ1.1 11 3)) (C := RX4) (T := TX4) (N := 4) hx hb hts hiX4 hown hK hP 11 wXg11 rfl 3 (by decide) (hts (.fieldLink RX4 22 "ArcGuesser$Measures" "wanderSteps" "I") (List.mem_of_getElem? (i := 2) rfl)) (fun _ h9 => h9) rfl dX4_wander_14 ?_
  refine lv_iconst (v := (1 : Int32)) hx hb dX4_wander_17 (by decide) ?_
  refine lv_icmp_ne (tgt := 47) hx hb dX4_wander_18 (by decide) (fun hc => ?_) (fun hc => ?_)
  · have hq := hq.1 hc
    refine lv_aload_n hx hb dX4_wander_47 rfl (lv_at hl 1 rfl) ?_
    refine va_get (D := D) (ci := 4) (v := .ref (ad 1)) (C := RX4) (T := TX4) (N := 4) hx hb hts hiX4 hown hK hP 11 wXg11 rfl 0 (by decide) (hts (.fieldLink RX4 9 "ArcGuesser$Measures" "net" "LArcGuesser$Net;") (List.mem_of_getElem? (i := 1) rfl)) (fun _ h9 => h9) rfl dX4_wander_48 ?_
    refine va_getN (D := D) (ci := 6) (v := .ref (ad 9)) (C := RX6) (T := TX6) (N := 13) hx hb hts hiX6 hown hK hP 1 wXg1 rfl 11 (by decide) (va_Nw.use rfl (hN (.fieldLinkNest RX4 34 "ArcGuesser$Net" "out" "[I" "ArcGuesser") (List.mem_of_getElem? (i := 20) rfl))) (fun _ h9 => h9) rfl dX4_wander_51 ?_
    refine lv_iload_n hx hb dX4_wander_54 rfl (lv_at hl 2 rfl) ?_
    refine va_iald hx hb hK hP 9 0 wXg9 rfl hq.1 dX4_wander_55 ?_
    have hq := hq.2
    refine lv_aload_n hx hb dX4_wander_56 rfl (lv_at hl 1 rfl) ?_
    refine va_get (D := D) (ci := 4) (v := .ref (ad 1)) (C := RX4) (T := TX4) (N := 4) hx hb hts hiX4 hown hK hP 11 wXg11 rfl 0 (by decide) (hts (.fieldLink RX4 9 "ArcGuesser$Measures" "net" "LArcGuesser$Net;") (List.mem_of_getElem? (i := 1) rfl)) (fun _ h9 => h9) rfl dX4_wander_57 ?_
    refine va_getN (D := D) (ci := 6) (v := .ref (ad 10)) (C := RX6) (T := TX6) (N := 13) hx hb hts hiX6 hown hK hP 1 wXg1 rfl 12 (by decide) (va_Nw.use rfl (hN (.fieldLinkNest RX4 56 "ArcGuesser$Net" "in" "[I" "ArcGuesser") (List.mem_of_getElem? (i := 21) rfl))) (fun _ h9 => h9) rfl dX4_wander_60 ?_
    refine lv_iload_n hx hb dX4_wander_63 rfl (lv_at hl 3 rfl) ?_
    refine va_iald hx hb hK hP 10 0 wXg10 rfl hq.1 dX4_wander_64 ?_
    have hq := hq.2
    refine lv_iand hx hb dX4_wander_65 ?_
    refine lv_istore (lv' := [(4, .int ((σ1.1 9 (p1).toNatClampNeg) &&& (σ1.1 10 (p2).toNatClampNeg))), (3, .int r1), (0, .ref (ad 11)), (1, .int p1), (2, .int p2)]) hx hb dX4_wander_66 hl (by decide) rfl (fun ls hl => ?_)
    refine lv_lconst (v := (0 : Int64)) hx hb dX4_wander_68 (by decide) ?_
    refine lv_lstore (lv' := [(5, .long (0 : Int64)), (4, .int ((σ1.1 9 (p1).toNatClampNeg) &&& (σ1.1 10 (p2).toNatClampNeg))), (3, .int r1), (0, .ref (ad 11)), (1, .int p1), (2, .int p2)]) hx hb dX4_wander_69 hl (by decide) rfl (fun ls hl => ?_)
    refine lv_iconst (v := (0 : Int32)) hx hb dX4_wander_71 (by decide) ?_
    refine lv_istore (lv' := [(7, .int (0 : Int32)), (5, .long (0 : Int64)), (4, .int ((σ1.1 9 (p1).toNatClampNeg) &&& (σ1.1 10 (p2).toNatClampNeg))), (3, .int r1), (0, .ref (ad 11)), (1, .int p1), (2, .int p2)]) hx hb dX4_wander_72 hl (by decide) rfl (fun ls hl => ?_)
    rw [hK74] at hq
    exact hq _ _ _ hP hD hS (lv_sub hl [4, 3, 2, 1, 0] rfl)
  · have hq := hq.2 hc
    refine lv_aload_n hx hb dX4_wander_21 rfl (lv_at hl 1 rfl) ?_
    refine va_get (D := D) (ci := 4) (v := .ref (ad 1)) (C := RX4) (T := TX4) (N := 4) hx hb hts hiX4 hown hK hP 11 wXg11 rfl 0 (by decide) (hts (.fieldLink RX4 9 "ArcGuesser$Measures" "net" "LArcGuesser$Net;") (List.mem_of_getElem? (i := 1) rfl)) (fun _ h9 => h9) rfl dX4_wander_22 ?_
    refine va_getN (D := D) (ci := 6) (v := .ref (ad 9)) (C := RX6) (T := TX6) (N := 13) hx hb hts hiX6 hown hK hP 1 wXg1 rfl 11 (by decide) (va_Nw.use rfl (hN (.fieldLinkNest RX4 34 "ArcGuesser$Net" "out" "[I" "ArcGuesser") (List.mem_of_getElem? (i := 20) rfl))) (fun _ h9 => h9) rfl dX4_wander_25 ?_
    refine lv_iload_n hx hb dX4_wander_28 rfl (lv_at hl 2 rfl) ?_
    refine va_iald hx hb hK hP 9 0 wXg9 rfl hq.1 dX4_wander_29 ?_
    have hq := hq.2
    refine lv_iload_n hx hb dX4_wander_30 rfl (lv_at hl 3 rfl) ?_
    refine w_calli (va_runSN (As := [.int (σ1.1 9 (p1).toNatClampNeg), .int p2]) (rest := []) ⟨hx, hb, hml, hown, hts⟩ (mtX6_has l D ad cA A σ1 (σ1.1 9 (p1).toNatClampNeg) p2 _ hq) ⟨va_cnB 2 hts ggX4_wander_X6_has rfl rfl rfl (hN (.methodLinkNest RX4 93 yX6_has "ArcGuesser") (List.mem_of_getElem? (i := 66) rfl)) (hts (.initialized RX6) (List.mem_of_getElem? (i := 11) rfl)) (by decide +kernel) ⟨Nat.le_of_ble_eq_true rfl, Nat.le_of_ble_eq_true rfl⟩, hts (.static yX6_has) (List.mem_of_getElem? (i := 10) rfl), trivial⟩ ⟨stW_blind nwX_ok, stW_pass hA hS hN hK hP hD nwX_ok⟩ rfl rfl hl.1 rfl (lv_room (Nat.le_of_ble_eq_true rfl)) dX4_wander_31 ⟨Nat.le_of_ble_eq_true rfl, Nat.le_of_ble_eq_true rfl⟩) hS (fun r2 σ2 H locs hq hP hD hS => ?_)
    refine lv_if_eq (tgt := 45) hx hb dX4_wander_34 (by decide) (fun hc => ?_) (fun hc => ?_)
    · have hq := hq.1 hc
      refine lv_lconst (v := (0 : Int64)) hx hb dX4_wander_45 (by decide) ?_
      exact W.lret (v := (0 : Int64)) hx hb hr (fun t ht hW => ⟨⟨(0 : Int64), σ2, rfl, hq, by rw [ht]; exact hP, hD⟩, hS.F ht⟩) hS.2.2 dX4_wander_46
    · have hq := hq.2 hc
      refine lv_iconst (v := (1 : Int32)) hx hb dX4_wander_37 (by decide) ?_
      refine lv_iload_n hx hb dX4_wander_38 rfl (lv_at hl 0 rfl) ?_
      refine w_calll (va_runS (As := [.int (1 : Int32), .int r1]) (rest := []) ⟨hx, hb, hml, hown, hts⟩ (mtX4_fraction l D ad cA A σ2 (1 : Int32) r1 _ hq) (va_cwS 2 hts gX4_wander_X4_fraction rfl rfl rfl (by decide +kernel) ⟨Nat.le_of_ble_eq_true rfl, Nat.le_of_ble_eq_true rfl⟩) ⟨stW_blind nwX_ok, stW_pass hA hS hN hK hP hD nwX_ok⟩ rfl rfl hl.1 rfl (lv_room (Nat.le_of_ble_eq_true rfl)) dX4_wander_39 ⟨Nat.le_of_ble_eq_true rfl, Nat.le_of_ble_eq_true rfl⟩) hS (fun r3 σ3 H locs hq hP hD hS => ?_)
      refine lv_goto (tgt := 46) hx hb dX4_wander_42 (by decide) ?_
      exact W.lret (v := r3) hx hb hr (fun t ht hW => ⟨⟨r3, σ3, rfl, hq, by rw [ht]; exact hP, hD⟩, hS.F ht⟩) hS.2.2 dX4_wander_46
/-! ArcGuesser$Measures.betweenGroups(II)J -/
def X4_betweenGroups_b25 (p1 : Int32) (p2 : Int32) (K25 : Sto → Int32 → Int32 → Int32 → Int32 → Prop) (Post : Int64 → Sto → Prop) (σ : Sto) (v3 : Int32) (v4 : Int32) (v5 : Int32) (v6 : Int32) : Prop :=
  (((σ.1 1 0) ≤ v6 → (J6_bitCount_0f7a4_wp σ v3 (fun r1 σ1 => (J6_bitCount_0f7a4_wp σ1 v4 (fun r2 σ2 => (X4_fraction_wp σ2 v5 (r1 * r2) (fun r3 σ3 => (Post r3 σ3)))))))) ∧ (¬ (σ.1 1 0) ≤ v6 → (X6_has_wp σ v3 v6 (fun r4 σ4 => ((r4 = 0 → (K25 σ4 v3 v4 v5 (v6 + (1 : Int32)))) ∧ (¬ r4 = 0 → (vp_in v6 12 ∧ (J6_bitCount_0f7a4_wp σ4 ((σ4.1 9 (v6).toNatClampNeg) &&& v4) (fun r5 σ5 => (K25 σ5 v3 v4 (v5 + r5) (v6 + (1 : Int32))))))))))))
def X4_betweenGroups_wp (σ : Sto) (p1 : Int32) (p2 : Int32) (Post : Int64 → Sto → Prop) : Prop := ∀ (K25 : Sto → Int32 → Int32 → Int32 → Int32 → Prop), (∀ (σ : Sto) (v3 : Int32) (v4 : Int32) (v5 : Int32) (v6 : Int32), X4_betweenGroups_b25 p1 p2 K25 Post σ v3 v4 v5 v6 → K25 σ v3 v4 v5 v6) → 
  (X6_membersOf_wp σ p1 (fun r1 σ1 => (X6_membersOf_wp σ1 p2 (fun r2 σ2 => (K25 σ2 r1 r2 (0 : Int32) (0 : Int32))))))
set_option maxHeartbeats 4000000 in
set_option maxRecDepth 100000 in
theorem mtX4_betweenGroups (l : Launch) (D : va_G) (ad : Nat → Nat) (cA : Nat → ClassId) (A : Nat → Prop) (σ : Sto) (p1 : Int32) (p2 : Int32) (Post : Int64 → Sto → Prop) (hwp : X4_betweenGroups_wp σ p1 p2 Post) : Met l yX4_betweenGroups wsX4_betweenGroups ({ frames := 1, cells := 0, slots := 0, locals := 23 }) (va_Pc [.ref (ad 11), .int p1, .int p2] (stW D (tyX cA) nwX (wX ad cA) A σ)) (va_Ql Post (enW D (wX ad cA) A) A) 0 0 A := by
  refine Met.ofW (cc := cX4_betweenGroups) (maxL := 7) (ret := (some .long)) (by decide) rfl ?_
  intro p e s m args below meth c s₁ B hml hv
  obtain ⟨rfl, hA, hN, hP, hK, hD⟩ := hv
  have hx := B.exec
  have hb := B.bytes
  have hr := B.returns
  have hts := atoms_spec (ws := wsX4_betweenGroups) B.pre
  have hown : s.vm.findClass RX4 = some m.cls := findClass_of_methodNamed B.named
  have hlocks := B.notSynchronized
  have hiX4 : ∀ w ∈ wsX40, w ∈ wsX4_betweenGroups := by decide +kernel
  have hiX6 : ∀ w ∈ wsX60, w ∈ wsX4_betweenGroups := by decide +kernel
  have hS : va_S A s.heap s.heap [] := va_S.rf
  have hl := lv_entry ([.ref (ad 11), .int p1, .int p2]) (n := 7) (Nat.le_of_ble_eq_true rfl)
  rw [lg_entry_eq]
  generalize (lg_sl ([.ref (ad 11), .int p1, .int p2]) ++ List.replicate (7 - (lg_sl ([.ref (ad 11), .int p1, .int p2])).length) Slot.unset).toArray = ls at hl ⊢
  have hl : lv_has ls 7 [(0, .ref (ad 11)), (1, .int p1), (2, .int p2)] := hl
  obtain ⟨K25, hK25⟩ : ∃ K : Sto → Int32 → Int32 → Int32 → Int32 → Prop, K = fun (σ : Sto) (v3 : Int32) (v4 : Int32) (v5 : Int32) (v6 : Int32) => ∀ (H : Heap) (locs : List Loc) (ls : Array Slot), va_P D vwCl ((wX ad cA) σ) H → va_D A ((wX ad cA) σ) → va_S A s.heap H locs → lv_has ls 7 [(0, .ref (ad 11)), (3, .int v3), (4, .int v4), (5, .int v5), (6, .int v6)] → W p l e (headSpec wsX4_betweenGroups ({ frames := 1, cells := 0, slots := 0, locals := 23 })).room s m ([.ref (ad 11), .int p1, .int p2] : List Value).toArray below meth c H locs 0 0 (MQ below (va_Ql Post (enW D (wX ad cA) A) A) ([.ref (ad 11), .int p1, .int p2] : List Value).toArray s 0 0 A) (F0 m 25 ls []) := ⟨_, rfl⟩
  have hk25 : ∀ (σ : Sto) (v3 : Int32) (v4 : Int32) (v5 : Int32) (v6 : Int32), X4_betweenGroups_b25 p1 p2 K25 Post σ v3 v4 v5 v6 → K25 σ v3 v4 v5 v6 := by
    intro σ v3 v4 v5 v6 hq
    rw [hK25]
    intro H locs ls hP hD hS hl
    unfold X4_betweenGroups_b25 at hq
    refine lv_iload hx hb dX4_betweenGroups_25 (lv_at hl 4 rfl) ?_
    refine lv_aload_n hx hb dX4_betweenGroups_27 rfl (lv_at hl 0 rfl) ?_
    refine va_get (D := D) (ci := 4) (v := .ref (ad 1)) (C := RX4) (T := TX4) (N := 4) hx hb hts hiX4 hown hK hP 11 wXg11 rfl 0 (by decide) (hts (.fieldLink RX4 9 "ArcGuesser$Measures" "net" "LArcGuesser$Net;") (List.mem_of_getElem? (i := 1) rfl)) (fun _ h9 => h9) rfl dX4_betweenGroups_28 ?_
    refine va_getN (D := D) (ci := 6) (v := .int (σ.1 1 0)) (C := RX6) (T := TX6) (N := 13) hx hb hts hiX6 hown hK hP 1 wXg1 rfl 0 (by decide) (va_Nw.use rfl (hN (.fieldLinkNest RX4 90 "ArcGuesser$Net" "nodes" "I" "ArcGuesser") (List.mem_of_getElem? (i := 23) rfl))) (fun _ h9 => h9) rfl dX4_betweenGroups_31 ?_
    refine lv_icmp_ge (tgt := 73) hx hb dX4_betweenGroups_34 (by decide) (fun hc => ?_) (fun hc => ?_)
    · have hq := hq.1 hc
      refine lv_iload hx hb dX4_betweenGroups_73 (lv_at hl 3 rfl) ?_
      refine lv_iload_n hx hb dX4_betweenGroups_75 rfl (lv_at hl 1 rfl) ?_
      refine w_calli (va_runS (As := [.int v3]) (rest := [.int v5]) ⟨hx, hb, hml, hown, hts⟩ (mtJ6_bitCount_0f7a4 l D (wX ad cA) (tyX cA) nwX A σ v3 _ hq) (va_cwS 1 hts gX4_betweenGroups_J6_bitCount_0f7a4 rfl rfl rfl (by decide +kernel) ⟨Nat.le_of_ble_eq_true rfl, Nat.le_of_ble_eq_true rfl⟩) ⟨stW_blind nwX_ok, stW_pass hA hS hN hK hP hD nwX_ok⟩ rfl rfl hl.1 rfl (lv_room (Nat.le_of_ble_eq_true rfl)) dX4_betweenGroups_76 ⟨Nat.le_of_ble_eq_true rfl, Nat.le_of_ble_eq_true rfl⟩) hS (fun r1 σ1 H locs hq hP hD hS => ?_)
      refine lv_iload hx hb dX4_betweenGroups_79 (lv_at hl 2 rfl) ?_
      refine w_calli (va_runS (As := [.int v4]) (rest := [.int r1, .int v5]) ⟨hx, hb, hml, hown, hts⟩ (mtJ6_bitCount_0f7a4 l D (wX ad cA) (tyX cA) nwX A σ1 v4 _ hq) (va_cwS 1 hts gX4_betweenGroups_J6_bitCount_0f7a4 rfl rfl rfl (by decide +kernel) ⟨Nat.le_of_ble_eq_true rfl, Nat.le_of_ble_eq_true rfl⟩) ⟨stW_blind nwX_ok, stW_pass hA hS hN hK hP hD nwX_ok⟩ rfl rfl hl.1 rfl (lv_room (Nat.le_of_ble_eq_true rfl)) dX4_betweenGroups_81 ⟨Nat.le_of_ble_eq_true rfl, Nat.le_of_ble_eq_true rfl⟩) hS (fun r2 σ2 H locs hq hP hD hS => ?_)
      refine lv_imul hx hb dX4_betweenGroups_84 ?_
      refine w_calll (va_runS (As := [.int v5, .int (r1 * r2)]) (rest := []) ⟨hx, hb, hml, hown, hts⟩ (mtX4_fraction l D ad cA A σ2 v5 (r1 * r2) _ hq) (va_cwS 2 hts gX4_betweenGroups_X4_fraction rfl rfl rfl (by decide +kernel) ⟨Nat.le_of_ble_eq_true rfl, Nat.le_of_ble_eq_true rfl⟩) ⟨stW_blind nwX_ok, stW_pass hA hS hN hK hP hD nwX_ok⟩ rfl rfl hl.1 rfl (lv_room (Nat.le_of_ble_eq_true rfl)) dX4_betweenGroups_85 ⟨Nat.le_of_ble_eq_true rfl, Nat.le_of_ble_eq_true rfl⟩) hS (fun r3 σ3 H locs hq hP hD hS => ?_)
      exact W.lret (v := r3) hx hb hr (fun t ht hW => ⟨⟨r3, σ3, rfl, hq, by rw [ht]; exact hP, hD⟩, hS.F ht⟩) hS.2.2 dX4_betweenGroups_88
    · have hq := hq.2 hc
      refine lv_iload_n hx hb dX4_betweenGroups_37 rfl (lv_at hl 1 rfl) ?_
      refine lv_iload hx hb dX4_betweenGroups_38 (lv_at hl 4 rfl) ?_
      refine w_calli (va_runSN (As := [.int v3, .int v6]) (rest := []) ⟨hx, hb, hml, hown, hts⟩ (mtX6_has l D ad cA A σ v3 v6 _ hq) ⟨va_cnB 2 hts ggX4_betweenGroups_X6_has rfl rfl rfl (hN (.methodLinkNest RX4 93 yX6_has "ArcGuesser") (List.mem_of_getElem? (i := 66) rfl)) (hts (.initialized RX6) (List.mem_of_getElem? (i := 3) rfl)) (by decide +kernel) ⟨Nat.le_of_ble_eq_true rfl, Nat.le_of_ble_eq_true rfl⟩, hts (.static yX6_has) (List.mem_of_getElem? (i := 8) rfl), trivial⟩ ⟨stW_blind nwX_ok, stW_pass hA hS hN hK hP hD nwX_ok⟩ rfl rfl hl.1 rfl (lv_room (Nat.le_of_ble_eq_true rfl)) dX4_betweenGroups_40 ⟨Nat.le_of_ble_eq_true rfl, Nat.le_of_ble_eq_true rfl⟩) hS (fun r4 σ4 H locs hq hP hD hS => ?_)
      refine lv_if_eq (tgt := 67) hx hb dX4_betweenGroups_43 (by decide) (fun hc => ?_) (fun hc => ?_)
      · have hq := hq.1 hc
        refine lv_iinc (v := (v6 + (1 : Int32))) (lv' := [(6, .int (v6 + (1 : Int32))), (0, .ref (ad 11)), (3, .int v3), (4, .int v4), (5, .int v5)]) hx hb dX4_betweenGroups_67 hl (k := 4) rfl (by rfl) (by decide) rfl (fun ls hl => ?_)
        refine lv_goto (tgt := 25) hx hb dX4_betweenGroups_70 (by decide) ?_
        rw [hK25] at hq
        exact hq _ _ _ hP hD hS (lv_sub hl [1, 2, 3, 4, 0] rfl)
      · have hq := hq.2 hc
        refine lv_iload hx hb dX4_betweenGroups_46 (lv_at hl 3 rfl) ?_
        refine lv_aload_n hx hb dX4_betweenGroups_48 rfl (lv_at hl 0 rfl) ?_
        refine va_get (D := D) (ci := 4) (v := .ref (ad 1)) (C := RX4) (T := TX4) (N := 4) hx hb hts hiX4 hown hK hP 11 wXg11 rfl 0 (by decide) (hts (.fieldLink RX4 9 "ArcGuesser$Measures" "net" "LArcGuesser$Net;") (List.mem_of_getElem? (i := 1) rfl)) (fun _ h9 => h9) rfl dX4_betweenGroups_49 ?_
        refine va_getN (D := D) (ci := 6) (v := .ref (ad 9)) (C := RX6) (T := TX6) (N := 13) hx hb hts hiX6 hown hK hP 1 wXg1 rfl 11 (by decide) (va_Nw.use rfl (hN (.fieldLinkNest RX4 34 "ArcGuesser$Net" "out" "[I" "ArcGuesser") (List.mem_of_getElem? (i := 20) rfl))) (fun _ h9 => h9) rfl dX4_betweenGroups_52 ?_
        refine lv_iload hx hb dX4_betweenGroups_55 (lv_at hl 4 rfl) ?_
        refine va_iald hx hb hK hP 9 0 wXg9 rfl hq.1 dX4_betweenGroups_57 ?_
        have hq := hq.2
        refine lv_iload hx hb dX4_betweenGroups_58 (lv_at hl 2 rfl) ?_
        refine lv_iand hx hb dX4_betweenGroups_60 ?_
        refine w_calli (va_runS (As := [.int ((σ4.1 9 (v6).toNatClampNeg) &&& v4)]) (rest := [.int v5]) ⟨hx, hb, hml, hown, hts⟩ (mtJ6_bitCount_0f7a4 l D (wX ad cA) (tyX cA) nwX A σ4 ((σ4.1 9 (v6).toNatClampNeg) &&& v4) _ hq) (va_cwS 1 hts gX4_betweenGroups_J6_bitCount_0f7a4 rfl rfl rfl (by decide +kernel) ⟨Nat.le_of_ble_eq_true rfl, Nat.le_of_ble_eq_true rfl⟩) ⟨stW_blind nwX_ok, stW_pass hA hS hN hK hP hD nwX_ok⟩ rfl rfl hl.1 rfl (lv_room (Nat.le_of_ble_eq_true rfl)) dX4_betweenGroups_61 ⟨Nat.le_of_ble_eq_true rfl, Nat.le_of_ble_eq_true rfl⟩) hS (fun r5 σ5 H locs hq hP hD hS => ?_)
        refine lv_iadd hx hb dX4_betweenGroups_64 ?_
        refine lv_istore (lv' := [(5, .int (v5 + r5)), (0, .ref (ad 11)), (3, .int v3), (4, .int v4), (6, .int v6)]) hx hb dX4_betweenGroups_65 hl (by decide) rfl (fun ls hl => ?_)
        refine lv_iinc (v := (v6 + (1 : Int32))) (lv' := [(6, .int (v6 + (1 : Int32))), (5, .int (v5 + r5)), (0, .ref (ad 11)), (3, .int v3), (4, .int v4)]) hx hb dX4_betweenGroups_67 hl (k := 4) rfl (by rfl) (by decide) rfl (fun ls hl => ?_)
        refine lv_goto (tgt := 25) hx hb dX4_betweenGroups_70 (by decide) ?_
        rw [hK25] at hq
        exact hq _ _ _ hP hD hS (lv_sub hl [2, 3, 4, 1, 0] rfl)
  have hq := hwp K25 hk25
  refine lv_aload_n hx hb dX4_betweenGroups_0 rfl (lv_at hl 0 rfl) ?_
  refine va_get (D := D) (ci := 4) (v := .ref (ad 1)) (C := RX4) (T := TX4) (N := 4) hx hb hts hiX4 hown hK hP 11 wXg11 rfl 0 (by decide) (hts (.fieldLink RX4 9 "ArcGuesser$Measures" "net" "LArcGuesser$Net;") (List.mem_of_getElem? (i := 1) rfl)) (fun _ h9 => h9) rfl dX4_betweenGroups_1 ?_
  refine lv_iload_n hx hb dX4_betweenGroups_4 rfl (lv_at hl 1 rfl) ?_
  refine w_calli (va_runVN (As := [.int p1]) (rest := []) ⟨hx, hb, hml, hown, hts⟩ (mtX6_membersOf l D ad cA A σ p1 _ hq) ⟨va_cnB 1 hts ggX4_betweenGroups_X6_membersOf rfl rfl rfl (hN (.methodLinkNest RX4 100 yX6_membersOf "ArcGuesser") (List.mem_of_getElem? (i := 68) rfl)) (hts (.initialized RX6) (List.mem_of_getElem? (i := 3) rfl)) (by decide +kernel) ⟨Nat.le_of_ble_eq_true rfl, Nat.le_of_ble_eq_true rfl⟩, hts (.instanceMethod yX6_membersOf) (List.mem_of_getElem? (i := 2) rfl), hts (.selects RX6 yX6_membersOf yX6_membersOf) (List.mem_of_getElem? (i := 4) rfl)⟩ ⟨stW_blind nwX_ok, va_recv hK hP (ci := 6) (q0 := 1) rfl wXg1, stW_pass hA hS hN hK hP hD nwX_ok⟩ rfl rfl hl.1 rfl (lv_room (Nat.le_of_ble_eq_true rfl)) dX4_betweenGroups_5 ⟨Nat.le_of_ble_eq_true rfl, Nat.le_of_ble_eq_true rfl⟩) hS (fun r1 σ1 H locs hq hP hD hS => ?_)
  refine lv_istore_n (lv' := [(3, .int r1), (0, .ref (ad 11)), (1, .int p1), (2, .int p2)]) hx hb dX4_betweenGroups_8 rfl hl (by decide) rfl (fun ls hl => ?_)
  refine lv_aload_n hx hb dX4_betweenGroups_9 rfl (lv_at hl 1 rfl) ?_
  refine va_get (D := D) (ci := 4) (v := .ref (ad 1)) (C := RX4) (T := TX4) (N := 4) hx hb hts hiX4 hown hK hP 11 wXg11 rfl 0 (by decide) (hts (.fieldLink RX4 9 "ArcGuesser$Measures" "net" "LArcGuesser$Net;") (List.mem_of_getElem? (i := 1) rfl)) (fun _ h9 => h9) rfl dX4_betweenGroups_10 ?_
  refine lv_iload_n hx hb dX4_betweenGroups_13 rfl (lv_at hl 3 rfl) ?_
  refine w_calli (va_runVN (As := [.int p2]) (rest := []) ⟨hx, hb, hml, hown, hts⟩ (mtX6_membersOf l D ad cA A σ1 p2 _ hq) ⟨va_cnB 1 hts ggX4_betweenGroups_X6_membersOf rfl rfl rfl (hN (.methodLinkNest RX4 100 yX6_membersOf "ArcGuesser") (List.mem_of_getElem? (i := 68) rfl)) (hts (.initialized RX6) (List.mem_of_getElem? (i := 3) rfl)) (by decide +kernel) ⟨Nat.le_of_ble_eq_true rfl, Nat.le_of_ble_eq_true rfl⟩, hts (.instanceMethod yX6_membersOf) (List.mem_of_getElem? (i := 2) rfl), hts (.selects RX6 yX6_membersOf yX6_membersOf) (List.mem_of_getElem? (i := 4) rfl)⟩ ⟨stW_blind nwX_ok, va_recv hK hP (ci := 6) (q0 := 1) rfl wXg1, stW_pass hA hS hN hK hP hD nwX_ok⟩ rfl rfl hl.1 rfl (lv_room (Nat.le_of_ble_eq_true rfl)) dX4_betweenGroups_14 ⟨Nat.le_of_ble_eq_true rfl, Nat.le_of_ble_eq_true rfl⟩) hS (fun r2 σ2 H locs hq hP hD hS => ?_)
  refine lv_istore (lv' := [(4, .int r2), (3, .int r1), (0, .ref (ad 11)), (1, .int p1), (2, .int p2)]) hx hb dX4_betweenGroups_17 hl (by decide) rfl (fun ls hl => ?_)
  refine lv_iconst (v := (0 : Int32)) hx hb dX4_betweenGroups_19 (by decide) ?_
  refine lv_istore (lv' := [(5, .int (0 : Int32)), (4, .int r2), (3, .int r1), (0, .ref (ad 11)), (1, .int p1), (2, .int p2)]) hx hb dX4_betweenGroups_20 hl (by decide) rfl (fun ls hl => ?_)
  refine lv_iconst (v := (0 : Int32)) hx hb dX4_betweenGroups_22 (by decide) ?_
  refine lv_istore (lv' := [(6, .int (0 : Int32)), (5, .int (0 : Int32)), (4, .int r2), (3, .int r1), (0, .ref (ad 11)), (1, .int p1), (2, .int p2)]) hx hb dX4_betweenGroups_23 hl (by decide) rfl (fun ls hl => ?_)
  rw [hK25] at hq
  exact hq _ _ _ hP hD hS (lv_sub hl [4, 3, 2, 1, 0] rfl)
/-! ArcGuesser$Measures.partsOf(II)J -/
def X4_partsOf_wp (σ : Sto) (p1 : Int32) (p2 : Int32) (Post : Int64 → Sto → Prop) : Prop :=
  (vp_in p2 132 ∧ (vp_in p2 132 ∧ ((p1 = (0 : Int32) → (vp_in (σ.1 2 (p2).toNatClampNeg) 12 ∧ (X6_comparedWith_wp σ (σ.1 3 (p2).toNatClampNeg) (fun r1 σ1 => (X4_overlap_wp σ1 p1 (σ.1 9 ((σ.1 2 (p2).toNatClampNeg)).toNatClampNeg) r1 (fun r2 σ2 => (Post r2 σ2))))))) ∧ (p1 = (1 : Int32) → (vp_in (σ.1 2 (p2).toNatClampNeg) 12 ∧ (X6_comparedWith_wp σ (σ.1 3 (p2).toNatClampNeg) (fun r3 σ3 => (X4_overlap_wp σ3 p1 (σ.1 9 ((σ.1 2 (p2).toNatClampNeg)).toNatClampNeg) r3 (fun r4 σ4 => (Post r4 σ4))))))) ∧ (p1 = (2 : Int32) → (vp_in (σ.1 2 (p2).toNatClampNeg) 12 ∧ (X6_comparedWith_wp σ (σ.1 3 (p2).toNatClampNeg) (fun r5 σ5 => (X4_overlap_wp σ5 p1 (σ.1 9 ((σ.1 2 (p2).toNatClampNeg)).toNatClampNeg) r5 (fun r6 σ6 => (Post r6 σ6))))))) ∧ (p1 = (3 : Int32) → (vp_in (σ.1 2 (p2).toNatClampNeg) 12 ∧ (X6_comparedWith_wp σ (σ.1 3 (p2).toNatClampNeg) (fun r7 σ7 => (X4_overlap_wp σ7 p1 (σ.1 9 ((σ.1 2 (p2).toNatClampNeg)).toNatClampNeg) r7 (fun r8 σ8 => (Post r8 σ8))))))) ∧ (p1 = (4 : Int32) → (vp_in (σ.1 2 (p2).toNatClampNeg) 12 ∧ (X6_comparedWith_wp σ (σ.1 3 (p2).toNatClampNeg) (fun r9 σ9 => (X4_overlap_wp σ9 p1 (σ.1 9 ((σ.1 2 (p2).toNatClampNeg)).toNatClampNeg) r9 (fun r10 σ10 => (Post r10 σ10))))))) ∧ (p1 = (5 : Int32) → (vp_in (σ.1 2 (p2).toNatClampNeg) 12 ∧ (X6_comparedWith_wp σ (σ.1 3 (p2).toNatClampNeg) (fun r11 σ11 => (X4_rareCommon_wp σ11 ((σ.1 9 ((σ.1 2 (p2).toNatClampNeg)).toNatClampNeg) &&& r11) (fun r12 σ12 => (Post r12 σ12))))))) ∧ (p1 = (6 : Int32) → (vp_in (σ.1 2 (p2).toNatClampNeg) 12 ∧ (J6_bitCount_0f7a4_wp σ (σ.1 9 ((σ.1 2 (p2).toNatClampNeg)).toNatClampNeg) (fun r13 σ13 => (vp_in (σ.1 3 (p2).toNatClampNeg) 12 ∧ (J6_bitCount_0f7a4_wp σ13 (σ13.1 10 ((σ.1 3 (p2).toNatClampNeg)).toNatClampNeg) (fun r14 σ14 => (Post (((3226504881600 : Int64) * (r13).toInt64) * (r14).toInt64) σ14)))))))) ∧ (p1 = (7 : Int32) → (X4_waysOfTwo_wp σ (σ.1 2 (p2).toNatClampNeg) (σ.1 3 (p2).toNatClampNeg) (fun r15 σ15 => (X4_waysOfThree_wp σ15 (σ.1 2 (p2).toNatClampNeg) (σ.1 3 (p2).toNatClampNeg) (fun r16 σ16 => (Post ((3226504881600 : Int64) * ((((σ.1 11 1) * r15) + ((σ15.1 11 2) * r16))).toInt64) σ16)))))) ∧ (p1 = (8 : Int32) → (X4_leastArcs_wp σ (σ.1 2 (p2).toNatClampNeg) (σ.1 3 (p2).toNatClampNeg) (fun r17 σ17 => (X4_fraction_wp σ17 (1 : Int32) r17 (fun r18 σ18 => (Post r18 σ18)))))) ∧ (p1 = (9 : Int32) → (X4_wander_wp σ (σ.1 2 (p2).toNatClampNeg) (σ.1 3 (p2).toNatClampNeg) (fun r19 σ19 => (Post r19 σ19)))) ∧ (p1 = (10 : Int32) → (vp_in (σ.1 2 (p2).toNatClampNeg) 12 ∧ (vp_in (σ.1 3 (p2).toNatClampNeg) 12 ∧ (X4_betweenGroups_wp σ (σ.1 8 ((σ.1 2 (p2).toNatClampNeg)).toNatClampNeg) (σ.1 8 ((σ.1 3 (p2).toNatClampNeg)).toNatClampNeg) (fun r20 σ20 => (Post r20 σ20)))))) ∧ (¬ p1 = (0 : Int32) → ¬ p1 = (1 : Int32) → ¬ p1 = (2 : Int32) → ¬ p1 = (3 : Int32) → ¬ p1 = (4 : Int32) → ¬ p1 = (5 : Int32) → ¬ p1 = (6 : Int32) → ¬ p1 = (7 : Int32) → ¬ p1 = (8 : Int32) → ¬ p1 = (9 : Int32) → ¬ p1 = (10 : Int32) → (Post (0 : Int64) σ)))))
set_option maxHeartbeats 4000000 in
set_option maxRecDepth 100000 in
theorem mtX4_partsOf (l : Launch) (D : va_G) (ad : Nat → Nat) (cA : Nat → ClassId) (A : Nat → Prop) (σ : Sto) (p1 : Int32) (p2 : Int32) (Post : Int64 → Sto → Prop) (hwp : X4_partsOf_wp σ p1 p2 Post) : Met l yX4_partsOf wsX4_partsOf ({ frames := 3, cells := 0, slots := 0, locals := 68 }) (va_Pc [.ref (ad 11), .int p1, .int p2] (stW D (tyX cA) nwX (wX ad cA) A σ)) (va_Ql Post (enW D (wX ad cA) A) A) 0 0 A := by
  refine Met.ofW (cc := cX4_partsOf) (maxL := 5) (ret := (some .long)) (by decide) rfl ?_
  intro p e s m args below meth c s₁ B hml hv
  obtain ⟨rfl, hA, hN, hP, hK, hD⟩ := hv
  have hx := B.exec
  have hb := B.bytes
  have hr := B.returns
  have hts := atoms_spec (ws := wsX4_partsOf) B.pre
  have hown : s.vm.findClass RX4 = some m.cls := findClass_of_methodNamed B.named
  have hlocks := B.notSynchronized
  have hiX4 : ∀ w ∈ wsX40, w ∈ wsX4_partsOf := by decide +kernel
  have hiX6 : ∀ w ∈ wsX60, w ∈ wsX4_partsOf := by decide +kernel
  have hS : va_S A s.heap s.heap [] := va_S.rf
  have hl := lv_entry ([.ref (ad 11), .int p1, .int p2]) (n := 5) (Nat.le_of_ble_eq_true rfl)
  rw [lg_entry_eq]
  generalize (lg_sl ([.ref (ad 11), .int p1, .int p2]) ++ List.replicate (5 - (lg_sl ([.ref (ad 11), .int p1, .int p2])).length) Slot.unset).toArray = ls at hl ⊢
  have hl : lv_has ls 5 [(0, .ref (ad 11)), (1, .int p1), (2, .int p2)] := hl
  have hq := hwp
  unfold X4_partsOf_wp at hq
  refine lv_aload_n hx hb dX4_partsOf_0 rfl (lv_at hl 0 rfl) ?_
  refine va_get (D := D) (ci := 4) (v := .ref (ad 1)) (C := RX4) (T := TX4) (N := 4) hx hb hts hiX4 hown hK hP 11 wXg11 rfl 0 (by decide) (hts (.fieldLink RX4 9 "ArcGuesser$Measures" "net" "LArcGuesser$Net;") (List.mem_of_getElem? (i := 1) rfl)) (fun _ h9 => h9) rfl dX4_partsOf_1 ?_
  refine va_getN (D := D) (ci := 6) (v := .ref (ad 2)) (C := RX6) (T := TX6) (N := 13) hx hb hts hiX6 hown hK hP 1 wXg1 rfl 4 (by decide) (va_Nw.use rfl (hN (.fieldLinkNest RX4 25 "ArcGuesser$Net" "from" "[I" "ArcGuesser") (List.mem_of_getElem? (i := 18) rfl))) (fun _ h9 => h9) rfl dX4_partsOf_4 ?_
  refine lv_iload_n hx hb dX4_partsOf_7 rfl (lv_at hl 2 rfl) ?_
  refine va_iald hx hb hK hP 2 0 wXg2 rfl hq.1 dX4_partsOf_8 ?_
  have hq := hq.2
  refine lv_istore_n (lv' := [(3, .int (σ.1 2 (p2).toNatClampNeg)), (0, .ref (ad 11)), (1, .int p1), (2, .int p2)]) hx hb dX4_partsOf_9 rfl hl (by decide) rfl (fun ls hl => ?_)
  refine lv_aload_n hx hb dX4_partsOf_10 rfl (lv_at hl 1 rfl) ?_
  refine va_get (D := D) (ci := 4) (v := .ref (ad 1)) (C := RX4) (T := TX4) (N := 4) hx hb hts hiX4 hown hK hP 11 wXg11 rfl 0 (by decide) (hts (.fieldLink RX4 9 "ArcGuesser$Measures" "net" "LArcGuesser$Net;") (List.mem_of_getElem? (i := 1) rfl)) (fun _ h9 => h9) rfl dX4_partsOf_11 ?_
  refine va_getN (D := D) (ci := 6) (v := .ref (ad 3)) (C := RX6) (T := TX6) (N := 13) hx hb hts hiX6 hown hK hP 1 wXg1 rfl 5 (by decide) (va_Nw.use rfl (hN (.fieldLinkNest RX4 31 "ArcGuesser$Net" "to" "[I" "ArcGuesser") (List.mem_of_getElem? (i := 19) rfl))) (fun _ h9 => h9) rfl dX4_partsOf_14 ?_
  refine lv_iload_n hx hb dX4_partsOf_17 rfl (lv_at hl 3 rfl) ?_
  refine va_iald hx hb hK hP 3 0 wXg3 rfl hq.1 dX4_partsOf_18 ?_
  have hq := hq.2
  refine lv_istore (lv' := [(4, .int (σ.1 3 (p2).toNatClampNeg)), (3, .int (σ.1 2 (p2).toNatClampNeg)), (0, .ref (ad 11)), (1, .int p1), (2, .int p2)]) hx hb dX4_partsOf_19 hl (by decide) rfl (fun ls hl => ?_)
  refine lv_iload_n hx hb dX4_partsOf_21 rfl (lv_at hl 3 rfl) ?_
  by_cases hc0 : p1 = (0 : Int32)
  · have hq := hq.1 hc0
    refine lv_tableIn (off := 58) (tgt := 80) hx hb dX4_partsOf_22 (by rw [hc0]; decide) (by rw [hc0]; decide) (by rw [hc0]; rfl) (by decide) ?_
    refine lv_iload_n hx hb dX4_partsOf_80 rfl (lv_at hl 3 rfl) ?_
    refine lv_aload_n hx hb dX4_partsOf_81 rfl (lv_at hl 2 rfl) ?_
    refine va_get (D := D) (ci := 4) (v := .ref (ad 1)) (C := RX4) (T := TX4) (N := 4) hx hb hts hiX4 hown hK hP 11 wXg11 rfl 0 (by decide) (hts (.fieldLink RX4 9 "ArcGuesser$Measures" "net" "LArcGuesser$Net;") (List.mem_of_getElem? (i := 1) rfl)) (fun _ h9 => h9) rfl dX4_partsOf_82 ?_
    refine va_getN (D := D) (ci := 6) (v := .ref (ad 9)) (C := RX6) (T := TX6) (N := 13) hx hb hts hiX6 hown hK hP 1 wXg1 rfl 11 (by decide) (va_Nw.use rfl (hN (.fieldLinkNest RX4 34 "ArcGuesser$Net" "out" "[I" "ArcGuesser") (List.mem_of_getElem? (i := 20) rfl))) (fun _ h9 => h9) rfl dX4_partsOf_85 ?_
    refine lv_iload_n hx hb dX4_partsOf_88 rfl (lv_at hl 1 rfl) ?_
    refine va_iald hx hb hK hP 9 0 wXg9 rfl hq.1 dX4_partsOf_89 ?_
    have hq := hq.2
    refine lv_aload_n hx hb dX4_partsOf_90 rfl (lv_at hl 2 rfl) ?_
    refine va_get (D := D) (ci := 4) (v := .ref (ad 1)) (C := RX4) (T := TX4) (N := 4) hx hb hts hiX4 hown hK hP 11 wXg11 rfl 0 (by decide) (hts (.fieldLink RX4 9 "ArcGuesser$Measures" "net" "LArcGuesser$Net;") (List.mem_of_getElem? (i := 1) rfl)) (fun _ h9 => h9) rfl dX4_partsOf_91 ?_
    refine lv_iload hx hb dX4_partsOf_94 (lv_at hl 0 rfl) ?_
    refine w_calli (va_runVN (As := [.int (σ.1 3 (p2).toNatClampNeg)]) (rest := [.int (σ.1 9 ((σ.1 2 (p2).toNatClampNeg)).toNatClampNeg), .int p1]) ⟨hx, hb, hml, hown, hts⟩ (mtX6_comparedWith l D ad cA A σ (σ.1 3 (p2).toNatClampNeg) _ hq) ⟨va_cnB 1 hts ggX4_partsOf_X6_comparedWith rfl rfl rfl (hN (.methodLinkNest RX4 37 yX6_comparedWith "ArcGuesser") (List.mem_of_getElem? (i := 65) rfl)) (hts (.initialized RX6) (List.mem_of_getElem? (i := 6) rfl)) (by decide +kernel) ⟨Nat.le_of_ble_eq_true rfl, Nat.le_of_ble_eq_true rfl⟩, hts (.instanceMethod yX6_comparedWith) (List.mem_of_getElem? (i := 5) rfl), hts (.selects RX6 yX6_comparedWith yX6_comparedWith) (List.mem_of_getElem? (i := 7) rfl)⟩ ⟨stW_blind nwX_ok, va_recv hK hP (ci := 6) (q0 := 1) rfl wXg1, stW_pass hA hS hN hK hP hD nwX_ok⟩ rfl rfl hl.1 rfl (lv_room (Nat.le_of_ble_eq_true rfl)) dX4_partsOf_96 ⟨Nat.le_of_ble_eq_true rfl, Nat.le_of_ble_eq_true rfl⟩) hS (fun r1 σ1 H locs hq hP hD hS => ?_)
    refine w_calll (va_runS (As := [.int p1, .int (σ.1 9 ((σ.1 2 (p2).toNatClampNeg)).toNatClampNeg), .int r1]) (rest := []) ⟨hx, hb, hml, hown, hts⟩ (mtX4_overlap l D ad cA A σ1 p1 (σ.1 9 ((σ.1 2 (p2).toNatClampNeg)).toNatClampNeg) r1 _ hq) (va_cwS 3 hts gX4_partsOf_X4_overlap rfl rfl rfl (by decide +kernel) ⟨Nat.le_of_ble_eq_true rfl, Nat.le_of_ble_eq_true rfl⟩) ⟨stW_blind nwX_ok, stW_pass hA hS hN hK hP hD nwX_ok⟩ rfl rfl hl.1 rfl (lv_room (Nat.le_of_ble_eq_true rfl)) dX4_partsOf_99 ⟨Nat.le_of_ble_eq_true rfl, Nat.le_of_ble_eq_true rfl⟩) hS (fun r2 σ2 H locs hq hP hD hS => ?_)
    exact W.lret (v := r2) hx hb hr (fun t ht hW => ⟨⟨r2, σ2, rfl, hq, by rw [ht]; exact hP, hD⟩, hS.F ht⟩) hS.2.2 dX4_partsOf_102
  have hq := hq.2
  by_cases hc1 : p1 = (1 : Int32)
  · have hq := hq.1 hc1
    refine lv_tableIn (off := 58) (tgt := 80) hx hb dX4_partsOf_22 (by rw [hc1]; decide) (by rw [hc1]; decide) (by rw [hc1]; rfl) (by decide) ?_
    refine lv_iload_n hx hb dX4_partsOf_80 rfl (lv_at hl 3 rfl) ?_
    refine lv_aload_n hx hb dX4_partsOf_81 rfl (lv_at hl 2 rfl) ?_
    refine va_get (D := D) (ci := 4) (v := .ref (ad 1)) (C := RX4) (T := TX4) (N := 4) hx hb hts hiX4 hown hK hP 11 wXg11 rfl 0 (by decide) (hts (.fieldLink RX4 9 "ArcGuesser$Measures" "net" "LArcGuesser$Net;") (List.mem_of_getElem? (i := 1) rfl)) (fun _ h9 => h9) rfl dX4_partsOf_82 ?_
    refine va_getN (D := D) (ci := 6) (v := .ref (ad 9)) (C := RX6) (T := TX6) (N := 13) hx hb hts hiX6 hown hK hP 1 wXg1 rfl 11 (by decide) (va_Nw.use rfl (hN (.fieldLinkNest RX4 34 "ArcGuesser$Net" "out" "[I" "ArcGuesser") (List.mem_of_getElem? (i := 20) rfl))) (fun _ h9 => h9) rfl dX4_partsOf_85 ?_
    refine lv_iload_n hx hb dX4_partsOf_88 rfl (lv_at hl 1 rfl) ?_
    refine va_iald hx hb hK hP 9 0 wXg9 rfl hq.1 dX4_partsOf_89 ?_
    have hq := hq.2
    refine lv_aload_n hx hb dX4_partsOf_90 rfl (lv_at hl 2 rfl) ?_
    refine va_get (D := D) (ci := 4) (v := .ref (ad 1)) (C := RX4) (T := TX4) (N := 4) hx hb hts hiX4 hown hK hP 11 wXg11 rfl 0 (by decide) (hts (.fieldLink RX4 9 "ArcGuesser$Measures" "net" "LArcGuesser$Net;") (List.mem_of_getElem? (i := 1) rfl)) (fun _ h9 => h9) rfl dX4_partsOf_91 ?_
    refine lv_iload hx hb dX4_partsOf_94 (lv_at hl 0 rfl) ?_
    refine w_calli (va_runVN (As := [.int (σ.1 3 (p2).toNatClampNeg)]) (rest := [.int (σ.1 9 ((σ.1 2 (p2).toNatClampNeg)).toNatClampNeg), .int p1]) ⟨hx, hb, hml, hown, hts⟩ (mtX6_comparedWith l D ad cA A σ (σ.1 3 (p2).toNatClampNeg) _ hq) ⟨va_cnB 1 hts ggX4_partsOf_X6_comparedWith rfl rfl rfl (hN (.methodLinkNest RX4 37 yX6_comparedWith "ArcGuesser") (List.mem_of_getElem? (i := 65) rfl)) (hts (.initialized RX6) (List.mem_of_getElem? (i := 6) rfl)) (by decide +kernel) ⟨Nat.le_of_ble_eq_true rfl, Nat.le_of_ble_eq_true rfl⟩, hts (.instanceMethod yX6_comparedWith) (List.mem_of_getElem? (i := 5) rfl), hts (.selects RX6 yX6_comparedWith yX6_comparedWith) (List.mem_of_getElem? (i := 7) rfl)⟩ ⟨stW_blind nwX_ok, va_recv hK hP (ci := 6) (q0 := 1) rfl wXg1, stW_pass hA hS hN hK hP hD nwX_ok⟩ rfl rfl hl.1 rfl (lv_room (Nat.le_of_ble_eq_true rfl)) dX4_partsOf_96 ⟨Nat.le_of_ble_eq_true rfl, Nat.le_of_ble_eq_true rfl⟩) hS (fun r3 σ3 H locs hq hP hD hS => ?_)
    refine w_calll (va_runS (As := [.int p1, .int (σ.1 9 ((σ.1 2 (p2).toNatClampNeg)).toNatClampNeg), .int r3]) (rest := []) ⟨hx, hb, hml, hown, hts⟩ (mtX4_overlap l D ad cA A σ3 p1 (σ.1 9 ((σ.1 2 (p2).toNatClampNeg)).toNatClampNeg) r3 _ hq) (va_cwS 3 hts gX4_partsOf_X4_overlap rfl rfl rfl (by decide +kernel) ⟨Nat.le_of_ble_eq_true rfl, Nat.le_of_ble_eq_true rfl⟩) ⟨stW_blind nwX_ok, stW_pass hA hS hN hK hP hD nwX_ok⟩ rfl rfl hl.1 rfl (lv_room (Nat.le_of_ble_eq_true rfl)) dX4_partsOf_99 ⟨Nat.le_of_ble_eq_true rfl, Nat.le_of_ble_eq_true rfl⟩) hS (fun r4 σ4 H locs hq hP hD hS => ?_)
    exact W.lret (v := r4) hx hb hr (fun t ht hW => ⟨⟨r4, σ4, rfl, hq, by rw [ht]; exact hP, hD⟩, hS.F ht⟩) hS.2.2 dX4_partsOf_102
  have hq := hq.2
  by_cases hc2 : p1 = (2 : Int32)
  · have hq := hq.1 hc2
    refine lv_tableIn (off := 58) (tgt := 80) hx hb dX4_partsOf_22 (by rw [hc2]; decide) (by rw [hc2]; decide) (by rw [hc2]; rfl) (by decide) ?_
    refine lv_iload_n hx hb dX4_partsOf_80 rfl (lv_at hl 3 rfl) ?_
    refine lv_aload_n hx hb dX4_partsOf_81 rfl (lv_at hl 2 rfl) ?_
    refine va_get (D := D) (ci := 4) (v := .ref (ad 1)) (C := RX4) (T := TX4) (N := 4) hx hb hts hiX4 hown hK hP 11 wXg11 rfl 0 (by decide) (hts (.fieldLink RX4 9 "ArcGuesser$Measures" "net" "LArcGuesser$Net;") (List.mem_of_getElem? (i := 1) rfl)) (fun _ h9 => h9) rfl dX4_partsOf_82 ?_
    refine va_getN (D := D) (ci := 6) (v := .ref (ad 9)) (C := RX6) (T := TX6) (N := 13) hx hb hts hiX6 hown hK hP 1 wXg1 rfl 11 (by decide) (va_Nw.use rfl (hN (.fieldLinkNest RX4 34 "ArcGuesser$Net" "out" "[I" "ArcGuesser") (List.mem_of_getElem? (i := 20) rfl))) (fun _ h9 => h9) rfl dX4_partsOf_85 ?_
    refine lv_iload_n hx hb dX4_partsOf_88 rfl (lv_at hl 1 rfl) ?_
    refine va_iald hx hb hK hP 9 0 wXg9 rfl hq.1 dX4_partsOf_89 ?_
    have hq := hq.2
    refine lv_aload_n hx hb dX4_partsOf_90 rfl (lv_at hl 2 rfl) ?_
    refine va_get (D := D) (ci := 4) (v := .ref (ad 1)) (C := RX4) (T := TX4) (N := 4) hx hb hts hiX4 hown hK hP 11 wXg11 rfl 0 (by decide) (hts (.fieldLink RX4 9 "ArcGuesser$Measures" "net" "LArcGuesser$Net;") (List.mem_of_getElem? (i := 1) rfl)) (fun _ h9 => h9) rfl dX4_partsOf_91 ?_
    refine lv_iload hx hb dX4_partsOf_94 (lv_at hl 0 rfl) ?_
    refine w_calli (va_runVN (As := [.int (σ.1 3 (p2).toNatClampNeg)]) (rest := [.int (σ.1 9 ((σ.1 2 (p2).toNatClampNeg)).toNatClampNeg), .int p1]) ⟨hx, hb, hml, hown, hts⟩ (mtX6_comparedWith l D ad cA A σ (σ.1 3 (p2).toNatClampNeg) _ hq) ⟨va_cnB 1 hts ggX4_partsOf_X6_comparedWith rfl rfl rfl (hN (.methodLinkNest RX4 37 yX6_comparedWith "ArcGuesser") (List.mem_of_getElem? (i := 65) rfl)) (hts (.initialized RX6) (List.mem_of_getElem? (i := 6) rfl)) (by decide +kernel) ⟨Nat.le_of_ble_eq_true rfl, Nat.le_of_ble_eq_true rfl⟩, hts (.instanceMethod yX6_comparedWith) (List.mem_of_getElem? (i := 5) rfl), hts (.selects RX6 yX6_comparedWith yX6_comparedWith) (List.mem_of_getElem? (i := 7) rfl)⟩ ⟨stW_blind nwX_ok, va_recv hK hP (ci := 6) (q0 := 1) rfl wXg1, stW_pass hA hS hN hK hP hD nwX_ok⟩ rfl rfl hl.1 rfl (lv_room (Nat.le_of_ble_eq_true rfl)) dX4_partsOf_96 ⟨Nat.le_of_ble_eq_true rfl, Nat.le_of_ble_eq_true rfl⟩) hS (fun r5 σ5 H locs hq hP hD hS => ?_)
    refine w_calll (va_runS (As := [.int p1, .int (σ.1 9 ((σ.1 2 (p2).toNatClampNeg)).toNatClampNeg), .int r5]) (rest := []) ⟨hx, hb, hml, hown, hts⟩ (mtX4_overlap l D ad cA A σ5 p1 (σ.1 9 ((σ.1 2 (p2).toNatClampNeg)).toNatClampNeg) r5 _ hq) (va_cwS 3 hts gX4_partsOf_X4_overlap rfl rfl rfl (by decide +kernel) ⟨Nat.le_of_ble_eq_true rfl, Nat.le_of_ble_eq_true rfl⟩) ⟨stW_blind nwX_ok, stW_pass hA hS hN hK hP hD nwX_ok⟩ rfl rfl hl.1 rfl (lv_room (Nat.le_of_ble_eq_true rfl)) dX4_partsOf_99 ⟨Nat.le_of_ble_eq_true rfl, Nat.le_of_ble_eq_true rfl⟩) hS (fun r6 σ6 H locs hq hP hD hS => ?_)
    exact W.lret (v := r6) hx hb hr (fun t ht hW => ⟨⟨r6, σ6, rfl, hq, by rw [ht]; exact hP, hD⟩, hS.F ht⟩) hS.2.2 dX4_partsOf_102
  have hq := hq.2
  by_cases hc3 : p1 = (3 : Int32)
  · have hq := hq.1 hc3
    refine lv_tableIn (off := 58) (tgt := 80) hx hb dX4_partsOf_22 (by rw [hc3]; decide) (by rw [hc3]; decide) (by rw [hc3]; rfl) (by decide) ?_
    refine lv_iload_n hx hb dX4_partsOf_80 rfl (lv_at hl 3 rfl) ?_
    refine lv_aload_n hx hb dX4_partsOf_81 rfl (lv_at hl 2 rfl) ?_
    refine va_get (D := D) (ci := 4) (v := .ref (ad 1)) (C := RX4) (T := TX4) (N := 4) hx hb hts hiX4 hown hK hP 11 wXg11 rfl 0 (by decide) (hts (.fieldLink RX4 9 "ArcGuesser$Measures" "net" "LArcGuesser$Net;") (List.mem_of_getElem? (i := 1) rfl)) (fun _ h9 => h9) rfl dX4_partsOf_82 ?_
    refine va_getN (D := D) (ci := 6) (v := .ref (ad 9)) (C := RX6) (T := TX6) (N := 13) hx hb hts hiX6 hown hK hP 1 wXg1 rfl 11 (by decide) (va_Nw.use rfl (hN (.fieldLinkNest RX4 34 "ArcGuesser$Net" "out" "[I" "ArcGuesser") (List.mem_of_getElem? (i := 20) rfl))) (fun _ h9 => h9) rfl dX4_partsOf_85 ?_
    refine lv_iload_n hx hb dX4_partsOf_88 rfl (lv_at hl 1 rfl) ?_
    refine va_iald hx hb hK hP 9 0 wXg9 rfl hq.1 dX4_partsOf_89 ?_
    have hq := hq.2
    refine lv_aload_n hx hb dX4_partsOf_90 rfl (lv_at hl 2 rfl) ?_
    refine va_get (D := D) (ci := 4) (v := .ref (ad 1)) (C := RX4) (T := TX4) (N := 4) hx hb hts hiX4 hown hK hP 11 wXg11 rfl 0 (by decide) (hts (.fieldLink RX4 9 "ArcGuesser$Measures" "net" "LArcGuesser$Net;") (List.mem_of_getElem? (i := 1) rfl)) (fun _ h9 => h9) rfl dX4_partsOf_91 ?_
    refine lv_iload hx hb dX4_partsOf_94 (lv_at hl 0 rfl) ?_
    refine w_calli (va_runVN (As := [.int (σ.1 3 (p2).toNatClampNeg)]) (rest := [.int (σ.1 9 ((σ.1 2 (p2).toNatClampNeg)).toNatClampNeg), .int p1]) ⟨hx, hb, hml, hown, hts⟩ (mtX6_comparedWith l D ad cA A σ (σ.1 3 (p2).toNatClampNeg) _ hq) ⟨va_cnB 1 hts ggX4_partsOf_X6_comparedWith rfl rfl rfl (hN (.methodLinkNest RX4 37 yX6_comparedWith "ArcGuesser") (List.mem_of_getElem? (i := 65) rfl)) (hts (.initialized RX6) (List.mem_of_getElem? (i := 6) rfl)) (by decide +kernel) ⟨Nat.le_of_ble_eq_true rfl, Nat.le_of_ble_eq_true rfl⟩, hts (.instanceMethod yX6_comparedWith) (List.mem_of_getElem? (i := 5) rfl), hts (.selects RX6 yX6_comparedWith yX6_comparedWith) (List.mem_of_getElem? (i := 7) rfl)⟩ ⟨stW_blind nwX_ok, va_recv hK hP (ci := 6) (q0 := 1) rfl wXg1, stW_pass hA hS hN hK hP hD nwX_ok⟩ rfl rfl hl.1 rfl (lv_room (Nat.le_of_ble_eq_true rfl)) dX4_partsOf_96 ⟨Nat.le_of_ble_eq_true rfl, Nat.le_of_ble_eq_true rfl⟩) hS (fun r7 σ7 H locs hq hP hD hS => ?_)
    refine w_calll (va_runS (As := [.int p1, .int (σ.1 9 ((σ.1 2 (p2).toNatClampNeg)).toNatClampNeg), .int r7]) (rest := []) ⟨hx, hb, hml, hown, hts⟩ (mtX4_overlap l D ad cA A σ7 p1 (σ.1 9 ((σ.1 2 (p2).toNatClampNeg)).toNatClampNeg) r7 _ hq) (va_cwS 3 hts gX4_partsOf_X4_overlap rfl rfl rfl (by decide +kernel) ⟨Nat.le_of_ble_eq_true rfl, Nat.le_of_ble_eq_true rfl⟩) ⟨stW_blind nwX_ok, stW_pass hA hS hN hK hP hD nwX_ok⟩ rfl rfl hl.1 rfl (lv_room (Nat.le_of_ble_eq_true rfl)) dX4_partsOf_99 ⟨Nat.le_of_ble_eq_true rfl, Nat.le_of_ble_eq_true rfl⟩) hS (fun r8 σ8 H locs hq hP hD hS => ?_)
    exact W.lret (v := r8) hx hb hr (fun t ht hW => ⟨⟨r8, σ8, rfl, hq, by rw [ht]; exact hP, hD⟩, hS.F ht⟩) hS.2.2 dX4_partsOf_102
  have hq := hq.2
  by_cases hc4 : p1 = (4 : Int32)
  · have hq := hq.1 hc4
    refine lv_tableIn (off := 58) (tgt := 80) hx hb dX4_partsOf_22 (by rw [hc4]; decide) (by rw [hc4]; decide) (by rw [hc4]; rfl) (by decide) ?_
    refine lv_iload_n hx hb dX4_partsOf_80 rfl (lv_at hl 3 rfl) ?_
    refine lv_aload_n hx hb dX4_partsOf_81 rfl (lv_at hl 2 rfl) ?_
    refine va_get (D := D) (ci := 4) (v := .ref (ad 1)) (C := RX4) (T := TX4) (N := 4) hx hb hts hiX4 hown hK hP 11 wXg11 rfl 0 (by decide) (hts (.fieldLink RX4 9 "ArcGuesser$Measures" "net" "LArcGuesser$Net;") (List.mem_of_getElem? (i := 1) rfl)) (fun _ h9 => h9) rfl dX4_partsOf_82 ?_
    refine va_getN (D := D) (ci := 6) (v := .ref (ad 9)) (C := RX6) (T := TX6) (N := 13) hx hb hts hiX6 hown hK hP 1 wXg1 rfl 11 (by decide) (va_Nw.use rfl (hN (.fieldLinkNest RX4 34 "ArcGuesser$Net" "out" "[I" "ArcGuesser") (List.mem_of_getElem? (i := 20) rfl))) (fun _ h9 => h9) rfl dX4_partsOf_85 ?_
    refine lv_iload_n hx hb dX4_partsOf_88 rfl (lv_at hl 1 rfl) ?_
    refine va_iald hx hb hK hP 9 0 wXg9 rfl hq.1 dX4_partsOf_89 ?_
    have hq := hq.2
    refine lv_aload_n hx hb dX4_partsOf_90 rfl (lv_at hl 2 rfl) ?_
    refine va_get (D := D) (ci := 4) (v := .ref (ad 1)) (C := RX4) (T := TX4) (N := 4) hx hb hts hiX4 hown hK hP 11 wXg11 rfl 0 (by decide) (hts (.fieldLink RX4 9 "ArcGuesser$Measures" "net" "LArcGuesser$Net;") (List.mem_of_getElem? (i := 1) rfl)) (fun _ h9 => h9) rfl dX4_partsOf_91 ?_
    refine lv_iload hx hb dX4_partsOf_94 (lv_at hl 0 rfl) ?_
    refine w_calli (va_runVN (As := [.int (σ.1 3 (p2).toNatClampNeg)]) (rest := [.int (σ.1 9 ((σ.1 2 (p2).toNatClampNeg)).toNatClampNeg), .int p1]) ⟨hx, hb, hml, hown, hts⟩ (mtX6_comparedWith l D ad cA A σ (σ.1 3 (p2).toNatClampNeg) _ hq) ⟨va_cnB 1 hts ggX4_partsOf_X6_comparedWith rfl rfl rfl (hN (.methodLinkNest RX4 37 yX6_comparedWith "ArcGuesser") (List.mem_of_getElem? (i := 65) rfl)) (hts (.initialized RX6) (List.mem_of_getElem? (i := 6) rfl)) (by decide +kernel) ⟨Nat.le_of_ble_eq_true rfl, Nat.le_of_ble_eq_true rfl⟩, hts (.instanceMethod yX6_comparedWith) (List.mem_of_getElem? (i := 5) rfl), hts (.selects RX6 yX6_comparedWith yX6_comparedWith) (List.mem_of_getElem? (i := 7) rfl)⟩ ⟨stW_blind nwX_ok, va_recv hK hP (ci := 6) (q0 := 1) rfl wXg1, stW_pass hA hS hN hK hP hD nwX_ok⟩ rfl rfl hl.1 rfl (lv_room (Nat.le_of_ble_eq_true rfl)) dX4_partsOf_96 ⟨Nat.le_of_ble_eq_true rfl, Nat.le_of_ble_eq_true rfl⟩) hS (fun r9 σ9 H locs hq hP hD hS => ?_)
    refine w_calll (va_runS (As := [.int p1, .int (σ.1 9 ((σ.1 2 (p2).toNatClampNeg)).toNatClampNeg), .int r9]) (rest := []) ⟨hx, hb, hml, hown, hts⟩ (mtX4_overlap l D ad cA A σ9 p1 (σ.1 9 ((σ.1 2 (p2).toNatClampNeg)).toNatClampNeg) r9 _ hq) (va_cwS 3 hts gX4_partsOf_X4_overlap rfl rfl rfl (by decide +kernel) ⟨Nat.le_of_ble_eq_true rfl, Nat.le_of_ble_eq_true rfl⟩) ⟨stW_blind nwX_ok, stW_pass hA hS hN hK hP hD nwX_ok⟩ rfl rfl hl.1 rfl (lv_room (Nat.le_of_ble_eq_true rfl)) dX4_partsOf_99 ⟨Nat.le_of_ble_eq_true rfl, Nat.le_of_ble_eq_true rfl⟩) hS (fun r10 σ10 H locs hq hP hD hS => ?_)
    exact W.lret (v := r10) hx hb hr (fun t ht hW => ⟨⟨r10, σ10, rfl, hq, by rw [ht]; exact hP, hD⟩, hS.F ht⟩) hS.2.2 dX4_partsOf_102
  have hq := hq.2
  by_cases hc5 : p1 = (5 : Int32)
  · have hq := hq.1 hc5
    refine lv_tableIn (off := 81) (tgt := 103) hx hb dX4_partsOf_22 (by rw [hc5]; decide) (by rw [hc5]; decide) (by rw [hc5]; rfl) (by decide) ?_
    refine lv_aload_n hx hb dX4_partsOf_103 rfl (lv_at hl 2 rfl) ?_
    refine lv_aload_n hx hb dX4_partsOf_104 rfl (lv_at hl 2 rfl) ?_
    refine va_get (D := D) (ci := 4) (v := .ref (ad 1)) (C := RX4) (T := TX4) (N := 4) hx hb hts hiX4 hown hK hP 11 wXg11 rfl 0 (by decide) (hts (.fieldLink RX4 9 "ArcGuesser$Measures" "net" "LArcGuesser$Net;") (List.mem_of_getElem? (i := 1) rfl)) (fun _ h9 => h9) rfl dX4_partsOf_105 ?_
    refine va_getN (D := D) (ci := 6) (v := .ref (ad 9)) (C := RX6) (T := TX6) (N := 13) hx hb hts hiX6 hown hK hP 1 wXg1 rfl 11 (by decide) (va_Nw.use rfl (hN (.fieldLinkNest RX4 34 "ArcGuesser$Net" "out" "[I" "ArcGuesser") (List.mem_of_getElem? (i := 20) rfl))) (fun _ h9 => h9) rfl dX4_partsOf_108 ?_
    refine lv_iload_n hx hb dX4_partsOf_111 rfl (lv_at hl 1 rfl) ?_
    refine va_iald hx hb hK hP 9 0 wXg9 rfl hq.1 dX4_partsOf_112 ?_
    have hq := hq.2
    refine lv_aload_n hx hb dX4_partsOf_113 rfl (lv_at hl 2 rfl) ?_
    refine va_get (D := D) (ci := 4) (v := .ref (ad 1)) (C := RX4) (T := TX4) (N := 4) hx hb hts hiX4 hown hK hP 11 wXg11 rfl 0 (by decide) (hts (.fieldLink RX4 9 "ArcGuesser$Measures" "net" "LArcGuesser$Net;") (List.mem_of_getElem? (i := 1) rfl)) (fun _ h9 => h9) rfl dX4_partsOf_114 ?_
    refine lv_iload hx hb dX4_partsOf_117 (lv_at hl 0 rfl) ?_
    refine w_calli (va_runVN (As := [.int (σ.1 3 (p2).toNatClampNeg)]) (rest := [.int (σ.1 9 ((σ.1 2 (p2).toNatClampNeg)).toNatClampNeg), .ref (ad 11)]) ⟨hx, hb, hml, hown, hts⟩ (mtX6_comparedWith l D ad cA A σ (σ.1 3 (p2).toNatClampNeg) _ hq) ⟨va_cnB 1 hts ggX4_partsOf_X6_comparedWith rfl rfl rfl (hN (.methodLinkNest RX4 37 yX6_comparedWith "ArcGuesser") (List.mem_of_getElem? (i := 65) rfl)) (hts (.initialized RX6) (List.mem_of_getElem? (i := 6) rfl)) (by decide +kernel) ⟨Nat.le_of_ble_eq_true rfl, Nat.le_of_ble_eq_true rfl⟩, hts (.instanceMethod yX6_comparedWith) (List.mem_of_getElem? (i := 5) rfl), hts (.selects RX6 yX6_comparedWith yX6_comparedWith) (List.mem_of_getElem? (i := 7) rfl)⟩ ⟨stW_blind nwX_ok, va_recv hK hP (ci := 6) (q0 := 1) rfl wXg1, stW_pass hA hS hN hK hP hD nwX_ok⟩ rfl rfl hl.1 rfl (lv_room (Nat.le_of_ble_eq_true rfl)) dX4_partsOf_119 ⟨Nat.le_of_ble_eq_true rfl, Nat.le_of_ble_eq_true rfl⟩) hS (fun r11 σ11 H locs hq hP hD hS => ?_)
    refine lv_iand hx hb dX4_partsOf_122 ?_
    refine w_calll (va_runV (As := [.int ((σ.1 9 ((σ.1 2 (p2).toNatClampNeg)).toNatClampNeg) &&& r11)]) (rest := []) ⟨hx, hb, hml, hown, hts⟩ (mtX4_rareCommon l D ad cA A σ11 ((σ.1 9 ((σ.1 2 (p2).toNatClampNeg)).toNatClampNeg) &&& r11) _ hq) (cwV 1 hts gX4_partsOf_X4_rareCommon rfl rfl rfl (by decide +kernel) ⟨Nat.le_of_ble_eq_true rfl, Nat.le_of_ble_eq_true rfl⟩) ⟨stW_blind nwX_ok, va_recv hK hP (ci := 4) (q0 := 11) rfl wXg11, stW_pass hA hS hN hK hP hD nwX_ok⟩ rfl rfl hl.1 rfl (lv_room (Nat.le_of_ble_eq_true rfl)) dX4_partsOf_123 ⟨Nat.le_of_ble_eq_true rfl, Nat.le_of_ble_eq_true rfl⟩) hS (fun r12 σ12 H locs hq hP hD hS => ?_)
    exact W.lret (v := r12) hx hb hr (fun t ht hW => ⟨⟨r12, σ12, rfl, hq, by rw [ht]; exact hP, hD⟩, hS.F ht⟩) hS.2.2 dX4_partsOf_126
  have hq := hq.2
  by_cases hc6 : p1 = (6 : Int32)
  · have hq := hq.1 hc6
    refine lv_tableIn (off := 105) (tgt := 127) hx hb dX4_partsOf_22 (by rw [hc6]; decide) (by rw [hc6]; decide) (by rw [hc6]; rfl) (by decide) ?_
    refine lv_ldc2 (v := (3226504881600 : Int64)) hx hb hown (hts (.constantLong RX4 49 (3226504881600)) (List.mem_of_getElem? (i := 2) rfl)) dX4_partsOf_127 ?_
    refine lv_aload_n hx hb dX4_partsOf_130 rfl (lv_at hl 2 rfl) ?_
    refine va_get (D := D) (ci := 4) (v := .ref (ad 1)) (C := RX4) (T := TX4) (N := 4) hx hb hts hiX4 hown hK hP 11 wXg11 rfl 0 (by decide) (hts (.fieldLink RX4 9 "ArcGuesser$Measures" "net" "LArcGuesser$Net;") (List.mem_of_getElem? (i := 1) rfl)) (fun _ h9 => h9) rfl dX4_partsOf_131 ?_
    refine va_getN (D := D) (ci := 6) (v := .ref (ad 9)) (C := RX6) (T := TX6) (N := 13) hx hb hts hiX6 hown hK hP 1 wXg1 rfl 11 (by decide) (va_Nw.use rfl (hN (.fieldLinkNest RX4 34 "ArcGuesser$Net" "out" "[I" "ArcGuesser") (List.mem_of_getElem? (i := 20) rfl))) (fun _ h9 => h9) rfl dX4_partsOf_134 ?_
    refine lv_iload_n hx hb dX4_partsOf_137 rfl (lv_at hl 1 rfl) ?_
    refine va_iald hx hb hK hP 9 0 wXg9 rfl hq.1 dX4_partsOf_138 ?_
    have hq := hq.2
    refine w_calli (va_runS (As := [.int (σ.1 9 ((σ.1 2 (p2).toNatClampNeg)).toNatClampNeg)]) (rest := [.long (3226504881600 : Int64)]) ⟨hx, hb, hml, hown, hts⟩ (mtJ6_bitCount_0f7a4 l D (wX ad cA) (tyX cA) nwX A σ (σ.1 9 ((σ.1 2 (p2).toNatClampNeg)).toNatClampNeg) _ hq) (va_cwS 1 hts gX4_partsOf_J6_bitCount_0f7a4 rfl rfl rfl (by decide +kernel) ⟨Nat.le_of_ble_eq_true rfl, Nat.le_of_ble_eq_true rfl⟩) ⟨stW_blind nwX_ok, stW_pass hA hS hN hK hP hD nwX_ok⟩ rfl rfl hl.1 rfl (lv_room (Nat.le_of_ble_eq_true rfl)) dX4_partsOf_139 ⟨Nat.le_of_ble_eq_true rfl, Nat.le_of_ble_eq_true rfl⟩) hS (fun r13 σ13 H locs hq hP hD hS => ?_)
    refine lv_i2l hx hb dX4_partsOf_142 rfl ?_
    refine lv_lmul hx hb dX4_partsOf_143 ?_
    refine lv_aload_n hx hb dX4_partsOf_144 rfl (lv_at hl 2 rfl) ?_
    refine va_get (D := D) (ci := 4) (v := .ref (ad 1)) (C := RX4) (T := TX4) (N := 4) hx hb hts hiX4 hown hK hP 11 wXg11 rfl 0 (by decide) (hts (.fieldLink RX4 9 "ArcGuesser$Measures" "net" "LArcGuesser$Net;") (List.mem_of_getElem? (i := 1) rfl)) (fun _ h9 => h9) rfl dX4_partsOf_145 ?_
    refine va_getN (D := D) (ci := 6) (v := .ref (ad 10)) (C := RX6) (T := TX6) (N := 13) hx hb hts hiX6 hown hK hP 1 wXg1 rfl 12 (by decide) (va_Nw.use rfl (hN (.fieldLinkNest RX4 56 "ArcGuesser$Net" "in" "[I" "ArcGuesser") (List.mem_of_getElem? (i := 21) rfl))) (fun _ h9 => h9) rfl dX4_partsOf_148 ?_
    refine lv_iload hx hb dX4_partsOf_151 (lv_at hl 0 rfl) ?_
    refine va_iald hx hb hK hP 10 0 wXg10 rfl hq.1 dX4_partsOf_153 ?_
    have hq := hq.2
    refine w_calli (va_runS (As := [.int (σ13.1 10 ((σ.1 3 (p2).toNatClampNeg)).toNatClampNeg)]) (rest := [.long ((3226504881600 : Int64) * (r13).toInt64)]) ⟨hx, hb, hml, hown, hts⟩ (mtJ6_bitCount_0f7a4 l D (wX ad cA) (tyX cA) nwX A σ13 (σ13.1 10 ((σ.1 3 (p2).toNatClampNeg)).toNatClampNeg) _ hq) (va_cwS 1 hts gX4_partsOf_J6_bitCount_0f7a4 rfl rfl rfl (by decide +kernel) ⟨Nat.le_of_ble_eq_true rfl, Nat.le_of_ble_eq_true rfl⟩) ⟨stW_blind nwX_ok, stW_pass hA hS hN hK hP hD nwX_ok⟩ rfl rfl hl.1 rfl (lv_room (Nat.le_of_ble_eq_true rfl)) dX4_partsOf_154 ⟨Nat.le_of_ble_eq_true rfl, Nat.le_of_ble_eq_true rfl⟩) hS (fun r14 σ14 H locs hq hP hD hS => ?_)
    refine lv_i2l hx hb dX4_partsOf_157 rfl ?_
    refine lv_lmul hx hb dX4_partsOf_158 ?_
    exact W.lret (v := (((3226504881600 : Int64) * (r13).toInt64) * (r14).toInt64)) hx hb hr (fun t ht hW => ⟨⟨(((3226504881600 : Int64) * (r13).toInt64) * (r14).toInt64), σ14, rfl, hq, by rw [ht]; exact hP, hD⟩, hS.F ht⟩) hS.2.2 dX4_partsOf_159
  have hq := hq.2
  by_cases hc7 : p1 = (7 : Int32)
  · have hq := hq.1 hc7
    refine lv_tableIn (off := 138) (tgt := 160) hx hb dX4_partsOf_22 (by rw [hc7]; decide) (by rw [hc7]; decide) (by rw [hc7]; rfl) (by decide) ?_
    refine lv_ldc2 (v := (3226504881600 : Int64)) hx hb hown (hts (.constantLong RX4 49 (3226504881600)) (List.mem_of_getElem? (i := 2) rfl)) dX4_partsOf_160 ?_
    refine lv_aload_n hx hb dX4_partsOf_163 rfl (lv_at hl 2 rfl) ?_
    refine va_get (D := D) (ci := 4) (v := .int (σ.1 11 1)) (C := RX4) (T := TX4) (N := 4) hx hb hts hiX4 hown hK hP 11 wXg11 rfl 1 (by decide) (hts (.fieldLink RX4 15 "ArcGuesser$Measures" "twoArcFactor" "I") (List.mem_of_getElem? (i := 3) rfl)) (fun _ h9 => h9) rfl dX4_partsOf_164 ?_
    refine lv_aload_n hx hb dX4_partsOf_167 rfl (lv_at hl 2 rfl) ?_
    refine lv_iload_n hx hb dX4_partsOf_168 rfl (lv_at hl 1 rfl) ?_
    refine lv_iload hx hb dX4_partsOf_169 (lv_at hl 0 rfl) ?_
    refine w_calli (va_runV (As := [.int (σ.1 2 (p2).toNatClampNeg), .int (σ.1 3 (p2).toNatClampNeg)]) (rest := [.int (σ.1 11 1), .long (3226504881600 : Int64)]) ⟨hx, hb, hml, hown, hts⟩ (mtX4_waysOfTwo l D ad cA A σ (σ.1 2 (p2).toNatClampNeg) (σ.1 3 (p2).toNatClampNeg) _ hq) (cwV 2 hts gX4_partsOf_X4_waysOfTwo rfl rfl rfl (by decide +kernel) ⟨Nat.le_of_ble_eq_true rfl, Nat.le_of_ble_eq_true rfl⟩) ⟨stW_blind nwX_ok, va_recv hK hP (ci := 4) (q0 := 11) rfl wXg11, stW_pass hA hS hN hK hP hD nwX_ok⟩ rfl rfl hl.1 rfl (lv_room (Nat.le_of_ble_eq_true rfl)) dX4_partsOf_171 ⟨Nat.le_of_ble_eq_true rfl, Nat.le_of_ble_eq_true rfl⟩) hS (fun r15 σ15 H locs hq hP hD hS => ?_)
    refine lv_imul hx hb dX4_partsOf_174 ?_
    refine lv_aload_n hx hb dX4_partsOf_175 rfl (lv_at hl 2 rfl) ?_
    refine va_get (D := D) (ci := 4) (v := .int (σ15.1 11 2)) (C := RX4) (T := TX4) (N := 4) hx hb hts hiX4 hown hK hP 11 wXg11 rfl 2 (by decide) (hts (.fieldLink RX4 19 "ArcGuesser$Measures" "threeArcFactor" "I") (List.mem_of_getElem? (i := 4) rfl)) (fun _ h9 => h9) rfl dX4_partsOf_176 ?_
    refine lv_aload_n hx hb dX4_partsOf_179 rfl (lv_at hl 2 rfl) ?_
    refine lv_iload_n hx hb dX4_partsOf_180 rfl (lv_at hl 1 rfl) ?_
    refine lv_iload hx hb dX4_partsOf_181 (lv_at hl 0 rfl) ?_
    refine w_calli (va_runV (As := [.int (σ.1 2 (p2).toNatClampNeg), .int (σ.1 3 (p2).toNatClampNeg)]) (rest := [.int (σ15.1 11 2), .int ((σ.1 11 1) * r15), .long (3226504881600 : Int64)]) ⟨hx, hb, hml, hown, hts⟩ (mtX4_waysOfThree l D ad cA A σ15 (σ.1 2 (p2).toNatClampNeg) (σ.1 3 (p2).toNatClampNeg) _ hq) (cwV 2 hts gX4_partsOf_X4_waysOfThree rfl rfl rfl (by decide +kernel) ⟨Nat.le_of_ble_eq_true rfl, Nat.le_of_ble_eq_true rfl⟩) ⟨stW_blind nwX_ok, va_recv hK hP (ci := 4) (q0 := 11) rfl wXg11, stW_pass hA hS hN hK hP hD nwX_ok⟩ rfl rfl hl.1 rfl (lv_room (Nat.le_of_ble_eq_true rfl)) dX4_partsOf_183 ⟨Nat.le_of_ble_eq_true rfl, Nat.le_of_ble_eq_true rfl⟩) hS (fun r16 σ16 H locs hq hP hD hS => ?_)
    refine lv_imul hx hb dX4_partsOf_186 ?_
    refine lv_iadd hx hb dX4_partsOf_187 ?_
    refine lv_i2l hx hb dX4_partsOf_188 rfl ?_
    refine lv_lmul hx hb dX4_partsOf_189 ?_
    exact W.lret (v := ((3226504881600 : Int64) * ((((σ.1 11 1) * r15) + ((σ15.1 11 2) * r16))).toInt64)) hx hb hr (fun t ht hW => ⟨⟨((3226504881600 : Int64) * ((((σ.1 11 1) * r15) + ((σ15.1 11 2) * r16))).toInt64), σ16, rfl, hq, by rw [ht]; exact hP, hD⟩, hS.F ht⟩) hS.2.2 dX4_partsOf_190
  have hq := hq.2
  by_cases hc8 : p1 = (8 : Int32)
  · have hq := hq.1 hc8
    refine lv_tableIn (off := 169) (tgt := 191) hx hb dX4_partsOf_22 (by rw [hc8]; decide) (by rw [hc8]; decide) (by rw [hc8]; rfl) (by decide) ?_
    refine lv_iconst (v := (1 : Int32)) hx hb dX4_partsOf_191 (by decide) ?_
    refine lv_aload_n hx hb dX4_partsOf_192 rfl (lv_at hl 2 rfl) ?_
    refine lv_iload_n hx hb dX4_partsOf_193 rfl (lv_at hl 1 rfl) ?_
    refine lv_iload hx hb dX4_partsOf_194 (lv_at hl 0 rfl) ?_
    refine w_calli (va_runV (As := [.int (σ.1 2 (p2).toNatClampNeg), .int (σ.1 3 (p2).toNatClampNeg)]) (rest := [.int (1 : Int32)]) ⟨hx, hb, hml, hown, hts⟩ (mtX4_leastArcs l D ad cA A σ (σ.1 2 (p2).toNatClampNeg) (σ.1 3 (p2).toNatClampNeg) _ hq) (cwV 2 hts gX4_partsOf_X4_leastArcs rfl rfl rfl (by decide +kernel) ⟨Nat.le_of_ble_eq_true rfl, Nat.le_of_ble_eq_true rfl⟩) ⟨stW_blind nwX_ok, va_recv hK hP (ci := 4) (q0 := 11) rfl wXg11, stW_pass hA hS hN hK hP hD nwX_ok⟩ rfl rfl hl.1 rfl (lv_room (Nat.le_of_ble_eq_true rfl)) dX4_partsOf_196 ⟨Nat.le_of_ble_eq_true rfl, Nat.le_of_ble_eq_true rfl⟩) hS (fun r17 σ17 H locs hq hP hD hS => ?_)
    refine w_calll (va_runS (As := [.int (1 : Int32), .int r17]) (rest := []) ⟨hx, hb, hml, hown, hts⟩ (mtX4_fraction l D ad cA A σ17 (1 : Int32) r17 _ hq) (va_cwS 2 hts gX4_partsOf_X4_fraction rfl rfl rfl (by decide +kernel) ⟨Nat.le_of_ble_eq_true rfl, Nat.le_of_ble_eq_true rfl⟩) ⟨stW_blind nwX_ok, stW_pass hA hS hN hK hP hD nwX_ok⟩ rfl rfl hl.1 rfl (lv_room (Nat.le_of_ble_eq_true rfl)) dX4_partsOf_199 ⟨Nat.le_of_ble_eq_true rfl, Nat.le_of_ble_eq_true rfl⟩) hS (fun r18 σ18 H locs hq hP hD hS => ?_)
    exact W.lret (v := r18) hx hb hr (fun t ht hW => ⟨⟨r18, σ18, rfl, hq, by rw [ht]; exact hP, hD⟩, hS.F ht⟩) hS.2.2 dX4_partsOf_202
  have hq := hq.2
  by_cases hc9 : p1 = (9 : Int32)
  · have hq := hq.1 hc9
    refine lv_tableIn (off := 181) (tgt := 203) hx hb dX4_partsOf_22 (by rw [hc9]; decide) (by rw [hc9]; decide) (by rw [hc9]; rfl) (by decide) ?_
    refine lv_aload_n hx hb dX4_partsOf_203 rfl (lv_at hl 2 rfl) ?_
    refine lv_iload_n hx hb dX4_partsOf_204 rfl (lv_at hl 1 rfl) ?_
    refine lv_iload hx hb dX4_partsOf_205 (lv_at hl 0 rfl) ?_
    refine w_calll (va_runV (As := [.int (σ.1 2 (p2).toNatClampNeg), .int (σ.1 3 (p2).toNatClampNeg)]) (rest := []) ⟨hx, hb, hml, hown, hts⟩ (mtX4_wander l D ad cA A σ (σ.1 2 (p2).toNatClampNeg) (σ.1 3 (p2).toNatClampNeg) _ hq) (cwV 2 hts gX4_partsOf_X4_wander rfl rfl rfl (by decide +kernel) ⟨Nat.le_of_ble_eq_true rfl, Nat.le_of_ble_eq_true rfl⟩) ⟨stW_blind nwX_ok, va_recv hK hP (ci := 4) (q0 := 11) rfl wXg11, stW_pass hA hS hN hK hP hD nwX_ok⟩ rfl rfl hl.1 rfl (lv_room (Nat.le_of_ble_eq_true rfl)) dX4_partsOf_207 ⟨Nat.le_of_ble_eq_true rfl, Nat.le_of_ble_eq_true rfl⟩) hS (fun r19 σ19 H locs hq hP hD hS => ?_)
    exact W.lret (v := r19) hx hb hr (fun t ht hW => ⟨⟨r19, σ19, rfl, hq, by rw [ht]; exact hP, hD⟩, hS.F ht⟩) hS.2.2 dX4_partsOf_210
  have hq := hq.2
  by_cases hc10 : p1 = (10 : Int32)
  · have hq := hq.1 hc10
    refine lv_tableIn (off := 189) (tgt := 211) hx hb dX4_partsOf_22 (by rw [hc10]; decide) (by rw [hc10]; decide) (by rw [hc10]; rfl) (by decide) ?_
    refine lv_aload_n hx hb dX4_partsOf_211 rfl (lv_at hl 2 rfl) ?_
    refine lv_aload_n hx hb dX4_partsOf_212 rfl (lv_at hl 2 rfl) ?_
    refine va_get (D := D) (ci := 4) (v := .ref (ad 1)) (C := RX4) (T := TX4) (N := 4) hx hb hts hiX4 hown hK hP 11 wXg11 rfl 0 (by decide) (hts (.fieldLink RX4 9 "ArcGuesser$Measures" "net" "LArcGuesser$Net;") (List.mem_of_getElem? (i := 1) rfl)) (fun _ h9 => h9) rfl dX4_partsOf_213 ?_
    refine va_getN (D := D) (ci := 6) (v := .ref (ad 8)) (C := RX6) (T := TX6) (N := 13) hx hb hts hiX6 hown hK hP 1 wXg1 rfl 10 (by decide) (va_Nw.use rfl (hN (.fieldLinkNest RX4 76 "ArcGuesser$Net" "groups" "[I" "ArcGuesser") (List.mem_of_getElem? (i := 22) rfl))) (fun _ h9 => h9) rfl dX4_partsOf_216 ?_
    refine lv_iload_n hx hb dX4_partsOf_219 rfl (lv_at hl 1 rfl) ?_
    refine va_iald hx hb hK hP 8 0 wXg8 rfl hq.1 dX4_partsOf_220 ?_
    have hq := hq.2
    refine lv_aload_n hx hb dX4_partsOf_221 rfl (lv_at hl 2 rfl) ?_
    refine va_get (D := D) (ci := 4) (v := .ref (ad 1)) (C := RX4) (T := TX4) (N := 4) hx hb hts hiX4 hown hK hP 11 wXg11 rfl 0 (by decide) (hts (.fieldLink RX4 9 "ArcGuesser$Measures" "net" "LArcGuesser$Net;") (List.mem_of_getElem? (i := 1) rfl)) (fun _ h9 => h9) rfl dX4_partsOf_222 ?_
    refine va_getN (D := D) (ci := 6) (v := .ref (ad 8)) (C := RX6) (T := TX6) (N := 13) hx hb hts hiX6 hown hK hP 1 wXg1 rfl 10 (by decide) (va_Nw.use rfl (hN (.fieldLinkNest RX4 76 "ArcGuesser$Net" "groups" "[I" "ArcGuesser") (List.mem_of_getElem? (i := 22) rfl))) (fun _ h9 => h9) rfl dX4_partsOf_225 ?_
    refine lv_iload hx hb dX4_partsOf_228 (lv_at hl 0 rfl) ?_
    refine va_iald hx hb hK hP 8 0 wXg8 rfl hq.1 dX4_partsOf_230 ?_
    have hq := hq.2
    refine w_calll (va_runV (As := [.int (σ.1 8 ((σ.1 2 (p2).toNatClampNeg)).toNatClampNeg), .int (σ.1 8 ((σ.1 3 (p2).toNatClampNeg)).toNatClampNeg)]) (rest := []) ⟨hx, hb, hml, hown, hts⟩ (mtX4_betweenGroups l D ad cA A σ (σ.1 8 ((σ.1 2 (p2).toNatClampNeg)).toNatClampNeg) (σ.1 8 ((σ.1 3 (p2).toNatClampNeg)).toNatClampNeg) _ hq) (cwV 2 hts gX4_partsOf_X4_betweenGroups rfl rfl rfl (by decide +kernel) ⟨Nat.le_of_ble_eq_true rfl, Nat.le_of_ble_eq_true rfl⟩) ⟨stW_blind nwX_ok, va_recv hK hP (ci := 4) (q0 := 11) rfl wXg11, stW_pass hA hS hN hK hP hD nwX_ok⟩ rfl rfl hl.1 rfl (lv_room (Nat.le_of_ble_eq_true rfl)) dX4_partsOf_231 ⟨Nat.le_of_ble_eq_true rfl, Nat.le_of_ble_eq_true rfl⟩) hS (fun r20 σ20 H locs hq hP hD hS => ?_)
    exact W.lret (v := r20) hx hb hr (fun t ht hW => ⟨⟨r20, σ20, rfl, hq, by rw [ht]; exact hP, hD⟩, hS.F ht⟩) hS.2.2 dX4_partsOf_234
  have hq := hq.2
  have hq := hq hc0 hc1 hc2 hc3 hc4 hc5 hc6 hc7 hc8 hc9 hc10
  refine lv_tableOut (tgt := 235) hx hb dX4_partsOf_22 (by have e0 := lv_neT hc0 (a := 0) (by decide); have e1 := lv_neT hc1 (a := 1) (by decide); have e2 := lv_neT hc2 (a := 2) (by decide); have e3 := lv_neT hc3 (a := 3) (by decide); have e4 := lv_neT hc4 (a := 4) (by decide); have e5 := lv_neT hc5 (a := 5) (by decide); have e6 := lv_neT hc6 (a := 6) (by decide); have e7 := lv_neT hc7 (a := 7) (by decide); have e8 := lv_neT hc8 (a := 8) (by decide); have e9 := lv_neT hc9 (a := 9) (by decide); have e10 := lv_neT hc10 (a := 10) (by decide); omega) (by decide) ?_
  refine lv_lconst (v := (0 : Int64)) hx hb dX4_partsOf_235 (by decide) ?_
  exact W.lret (v := (0 : Int64)) hx hb hr (fun t ht hW => ⟨⟨(0 : Int64), σ, rfl, hq, by rw [ht]; exact hP, hD⟩, hS.F ht⟩) hS.2.2 dX4_partsOf_236
/-! ArcGuesser$Mix.mixOf(I)J -/
def X5_mixOf_b5 (p1 : Int32) (K5 : Sto → Int64 → Int32 → Prop) (Post : Int64 → Sto → Prop) (σ : Sto) (v2 : Int64) (v4 : Int32) : Prop :=
  (((11 : Int32) ≤ v4 → (Post v2 σ)) ∧ (¬ (11 : Int32) ≤ v4 → (vp_in v4 11 ∧ (((σ.1 13 (v4).toNatClampNeg) = 0 → (K5 σ v2 (v4 + (1 : Int32)))) ∧ (¬ (σ.1 13 (v4).toNatClampNeg) = 0 → (vp_in v4 11 ∧ (X4_partsOf_wp σ v4 p1 (fun r1 σ1 => (K5 σ1 (v2 + (((σ.1 13 (v4).toNatClampNeg)).toInt64 * r1)) (v4 + (1 : Int32)))))))))))
def X5_mixOf_wp (σ : Sto) (p1 : Int32) (Post : Int64 → Sto → Prop) : Prop := ∀ (K5 : Sto → Int64 → Int32 → Prop), (∀ (σ : Sto) (v2 : Int64) (v4 : Int32), X5_mixOf_b5 p1 K5 Post σ v2 v4 → K5 σ v2 v4) → 
  (K5 σ (0 : Int64) (0 : Int32))
set_option maxHeartbeats 4000000 in
set_option maxRecDepth 100000 in
theorem mtX5_mixOf (l : Launch) (D : va_G) (ad : Nat → Nat) (cA : Nat → ClassId) (A : Nat → Prop) (σ : Sto) (p1 : Int32) (Post : Int64 → Sto → Prop) (hwp : X5_mixOf_wp σ p1 Post) : Met l yX5_mixOf wsX5_mixOf ({ frames := 4, cells := 0, slots := 0, locals := 92 }) (va_Pc [.ref (ad 12), .int p1] (stW D (tyX cA) nwX (wX ad cA) A σ)) (va_Ql Post (enW D (wX ad cA) A) A) 0 0 A := by
  refine Met.ofW (cc := cX5_mixOf) (maxL := 5) (ret := (some .long)) (by decide) rfl ?_
  intro p e s m args below meth c s₁ B hml hv
  obtain ⟨rfl, hA, hN, hP, hK, hD⟩ := hv
  have hx := B.exec
  have hb := B.bytes
  have hr := B.returns
  have hts := atoms_spec (ws := wsX5_mixOf) B.pre
  have hown : s.vm.findClass RX5 = some m.cls := findClass_of_methodNamed B.named
  have hlocks := B.notSynchronized
  have hiX5 : ∀ w ∈ wsX50, w ∈ wsX5_mixOf := by decide +kernel
  have hS : va_S A s.heap s.heap [] := va_S.rf
  have hl := lv_entry ([.ref (ad 12), .int p1]) (n := 5) (Nat.le_of_ble_eq_true rfl)
  rw [lg_entry_eq]
  generalize (lg_sl ([.ref (ad 12), .int p1]) ++ List.replicate (5 - (lg_sl ([.ref (ad 12), .int p1])).length) Slot.unset).toArray = ls at hl ⊢
  have hl : lv_has ls 5 [(0, .ref (ad 12)), (1, .int p1)] := hl
  obtain ⟨K5, hK5⟩ : ∃ K : Sto → Int64 → Int32 → Prop, K = fun (σ : Sto) (v2 : Int64) (v4 : Int32) => ∀ (H : Heap) (locs : List Loc) (ls : Array Slot), va_P D vwCl ((wX ad cA) σ) H → va_D A ((wX ad cA) σ) → va_S A s.heap H locs → lv_has ls 5 [(0, .ref (ad 12)), (1, .int p1), (2, .long v2), (4, .int v4)] → W p l e (headSpec wsX5_mixOf ({ frames := 4, cells := 0, slots := 0, locals := 92 })).room s m ([.ref (ad 12), .int p1] : List Value).toArray below meth c H locs 0 0 (MQ below (va_Ql Post (enW D (wX ad cA) A) A) ([.ref (ad 12), .int p1] : List Value).toArray s 0 0 A) (F0 m 5 ls []) := ⟨_, rfl⟩
  have hk5 : ∀ (σ : Sto) (v2 : Int64) (v4 : Int32), X5_mixOf_b5 p1 K5 Post σ v2 v4 → K5 σ v2 v4 := by
    intro σ v2 v4 hq
    rw [hK5]
    intro H locs ls hP hD hS hl
    unfold X5_mixOf_b5 at hq
    refine lv_iload hx hb dX5_mixOf_5 (lv_at hl 3 rfl) ?_
    refine lv_bipush (v := (11 : Int32)) hx hb dX5_mixOf_7 (by decide) ?_
    refine lv_icmp_ge (tgt := 50) hx hb dX5_mixOf_9 (by decide) (fun hc => ?_) (fun hc => ?_)
    · have hq := hq.1 hc
      refine lv_lload_n hx hb dX5_mixOf_50 rfl (lv_at hl 2 rfl) ?_
      exact W.lret (v := v2) hx hb hr (fun t ht hW => ⟨⟨v2, σ, rfl, hq, by rw [ht]; exact hP, hD⟩, hS.F ht⟩) hS.2.2 dX5_mixOf_51
    · have hq := hq.2 hc
      refine lv_aload_n hx hb dX5_mixOf_12 rfl (lv_at hl 0 rfl) ?_
      refine va_get (D := D) (ci := 5) (v := .ref (ad 13)) (C := RX5) (T := TX5) (N := 2) hx hb hts hiX5 hown hK hP 12 wXg12 rfl 1 (by decide) (hts (.fieldLink RX5 9 "ArcGuesser$Mix" "weights" "[I") (List.mem_of_getElem? (i := 1) rfl)) (fun _ h9 => h9) rfl dX5_mixOf_13 ?_
      refine lv_iload hx hb dX5_mixOf_16 (lv_at hl 3 rfl) ?_
      refine va_iald hx hb hK hP 13 0 wXg13 rfl hq.1 dX5_mixOf_18 ?_
      have hq := hq.2
      refine lv_if_eq (tgt := 44) hx hb dX5_mixOf_19 (by decide) (fun hc => ?_) (fun hc => ?_)
      · have hq := hq.1 hc
        refine lv_iinc (v := (v4 + (1 : Int32))) (lv' := [(4, .int (v4 + (1 : Int32))), (0, .ref (ad 12)), (1, .int p1), (2, .long v2)]) hx hb dX5_mixOf_44 hl (k := 3) rfl (by rfl) (by decide) rfl (fun ls hl => ?_)
        refine lv_goto (tgt := 5) hx hb dX5_mixOf_47 (by decide) ?_
        rw [hK5] at hq
        exact hq _ _ _ hP hD hS (lv_sub hl [1, 2, 3, 0] rfl)
      · have hq := hq.2 hc
        refine lv_lload_n hx hb dX5_mixOf_22 rfl (lv_at hl 2 rfl) ?_
        refine lv_aload_n hx hb dX5_mixOf_23 rfl (lv_at hl 0 rfl) ?_
        refine va_get (D := D) (ci := 5) (v := .ref (ad 13)) (C := RX5) (T := TX5) (N := 2) hx hb hts hiX5 hown hK hP 12 wXg12 rfl 1 (by decide) (hts (.fieldLink RX5 9 "ArcGuesser$Mix" "weights" "[I") (List.mem_of_getElem? (i := 1) rfl)) (fun _ h9 => h9) rfl dX5_mixOf_24 ?_
        refine lv_iload hx hb dX5_mixOf_27 (lv_at hl 3 rfl) ?_
        refine va_iald hx hb hK hP 13 0 wXg13 rfl hq.1 dX5_mixOf_29 ?_
        have hq := hq.2
        refine lv_i2l hx hb dX5_mixOf_30 rfl ?_
        refine lv_aload_n hx hb dX5_mixOf_31 rfl (lv_at hl 0 rfl) ?_
        refine va_get (D := D) (ci := 5) (v := .ref (ad 11)) (C := RX5) (T := TX5) (N := 2) hx hb hts hiX5 hown hK hP 12 wXg12 rfl 0 (by decide) (hts (.fieldLink RX5 15 "ArcGuesser$Mix" "measures" "LArcGuesser$Measures;") (List.mem_of_getElem? (i := 2) rfl)) (fun _ h9 => h9) rfl dX5_mixOf_32 ?_
        refine lv_iload hx hb dX5_mixOf_35 (lv_at hl 3 rfl) ?_
        refine lv_iload_n hx hb dX5_mixOf_37 rfl (lv_at hl 1 rfl) ?_
        refine w_calll (va_runVN (As := [.int v4, .int p1]) (rest := [.long ((σ.1 13 (v4).toNatClampNeg)).toInt64, .long v2]) ⟨hx, hb, hml, hown, hts⟩ (mtX4_partsOf l D ad cA A σ v4 p1 _ hq) ⟨va_cnB 2 hts ggX5_mixOf_X4_partsOf rfl rfl rfl (hN (.methodLinkNest RX5 25 yX4_partsOf "ArcGuesser") (List.mem_of_getElem? (i := 69) rfl)) (hts (.initialized RX4) (List.mem_of_getElem? (i := 4) rfl)) (by decide +kernel) ⟨Nat.le_of_ble_eq_true rfl, Nat.le_of_ble_eq_true rfl⟩, hts (.instanceMethod yX4_partsOf) (List.mem_of_getElem? (i := 3) rfl), hts (.selects RX4 yX4_partsOf yX4_partsOf) (List.mem_of_getElem? (i := 5) rfl)⟩ ⟨stW_blind nwX_ok, va_recv hK hP (ci := 4) (q0 := 11) rfl wXg11, stW_pass hA hS hN hK hP hD nwX_ok⟩ rfl rfl hl.1 rfl (lv_room (Nat.le_of_ble_eq_true rfl)) dX5_mixOf_38 ⟨Nat.le_of_ble_eq_true rfl, Nat.le_of_ble_eq_true rfl⟩) hS (fun r1 σ1 H locs hq hP hD hS => ?_)
        refine lv_lmul hx hb dX5_mixOf_41 ?_
        refine lv_ladd hx hb dX5_mixOf_42 ?_
        refine lv_lstore_n (lv' := [(2, .long (v2 + (((σ.1 13 (v4).toNatClampNeg)).toInt64 * r1))), (0, .ref (ad 12)), (1, .int p1), (4, .int v4)]) hx hb dX5_mixOf_43 rfl hl (by decide) rfl (fun ls hl => ?_)
        refine lv_iinc (v := (v4 + (1 : Int32))) (lv' := [(4, .int (v4 + (1 : Int32))), (2, .long (v2 + (((σ.1 13 (v4).toNatClampNeg)).toInt64 * r1))), (0, .ref (ad 12)), (1, .int p1)]) hx hb dX5_mixOf_44 hl (k := 3) rfl (by rfl) (by decide) rfl (fun ls hl => ?_)
        refine lv_goto (tgt := 5) hx hb dX5_mixOf_47 (by decide) ?_
        rw [hK5] at hq
        exact hq _ _ _ hP hD hS (lv_sub hl [2, 3, 1, 0] rfl)
  have hq := hwp K5 hk5
  refine lv_lconst (v := (0 : Int64)) hx hb dX5_mixOf_0 (by decide) ?_
  refine lv_lstore_n (lv' := [(2, .long (0 : Int64)), (0, .ref (ad 12)), (1, .int p1)]) hx hb dX5_mixOf_1 rfl hl (by decide) rfl (fun ls hl => ?_)
  refine lv_iconst (v := (0 : Int32)) hx hb dX5_mixOf_2 (by decide) ?_
  refine lv_istore (lv' := [(4, .int (0 : Int32)), (2, .long (0 : Int64)), (0, .ref (ad 12)), (1, .int p1)]) hx hb dX5_mixOf_3 hl (by decide) rfl (fun ls hl => ?_)
  rw [hK5] at hq
  exact hq _ _ _ hP hD hS (lv_sub hl [2, 3, 1, 0] rfl)
/-! ArcGuesser$Measures.setPaths(III)V -/
def X4_setPaths_wp (σ : Sto) (p1 : Int32) (p2 : Int32) (p3 : Int32) (Post : Sto → Prop) : Prop :=
  (Post (sI (sI (sI σ 11 1 p1) 11 2 p2) 11 3 p3))
set_option maxHeartbeats 4000000 in
set_option maxRecDepth 100000 in
theorem mtX4_setPaths (l : Launch) (D : va_G) (ad : Nat → Nat) (cA : Nat → ClassId) (A : Nat → Prop) (σ : Sto) (p1 : Int32) (p2 : Int32) (p3 : Int32) (Post : Sto → Prop) (hwp : X4_setPaths_wp σ p1 p2 p3 Post) : Met l yX4_setPaths wsX4_setPaths ({ frames := 0, cells := 0, slots := 0, locals := 0 }) (va_Pc [.ref (ad 11), .int p1, .int p2, .int p3] (stW D (tyX cA) nwX (wX ad cA) A σ)) (va_Qv Post (enW D (wX ad cA) A) A) 0 0 A := by
  refine Met.ofW (cc := cX4_setPaths) (maxL := 4) (ret := none) (by decide) rfl ?_
  intro p e s m args below meth c s₁ B hml hv
  obtain ⟨rfl, hA, hN, hP, hK, hD⟩ := hv
  have hx := B.exec
  have hb := B.bytes
  have hr := B.returns
  have hts := atoms_spec (ws := wsX4_setPaths) B.pre
  have hown : s.vm.findClass RX4 = some m.cls := findClass_of_methodNamed B.named
  have hlocks := B.notSynchronized
  have hiX4 : ∀ w ∈ wsX40, w ∈ wsX4_setPaths := by decide +kernel
  have hS : va_S A s.heap s.heap [] := va_S.rf
  have hl := lv_entry ([.ref (ad 11), .int p1, .int p2, .int p3]) (n := 4) (Nat.le_of_ble_eq_true rfl)
  rw [lg_entry_eq]
  generalize (lg_sl ([.ref (ad 11), .int p1, .int p2, .int p3]) ++ List.replicate (4 - (lg_sl ([.ref (ad 11), .int p1, .int p2, .int p3])).length) Slot.unset).toArray = ls at hl ⊢
  have hl : lv_has ls 4 [(0, .ref (ad 11)), (1, .int p1), (2, .int p2), (3, .int p3)] := hl
  have hq := hwp
  unfold X4_setPaths_wp at hq
  refine lv_aload_n hx hb dX4_setPaths_0 rfl (lv_at hl 0 rfl) ?_
  refine lv_iload_n hx hb dX4_setPaths_1 rfl (lv_at hl 1 rfl) ?_
  refine va_put (D := D) (ci := 4) (v := .int p1) (ty := .int) (C := RX4) (T := TX4) (N := 4) hx hb hts hiX4 tyX4 tyX4_ok nmX4 hown hK hP hD hS 11 wXg11 rfl 1 (by decide) (hts (.fieldLink RX4 15 "ArcGuesser$Measures" "twoArcFactor" "I") (List.mem_of_getElem? (i := 1) rfl)) (fun _ h9 => h9) rfl (by decide +kernel) rfl rfl (Nat.le_of_ble_eq_true rfl) dX4_setPaths_2 (fun H locs hP hD hS => ?_)
  have hP := wXfP11_1 hP
  have hD := wXfD11_1 hD
  refine lv_aload_n hx hb dX4_setPaths_5 rfl (lv_at hl 0 rfl) ?_
  refine lv_iload_n hx hb dX4_setPaths_6 rfl (lv_at hl 2 rfl) ?_
  refine va_put (D := D) (ci := 4) (v := .int p2) (ty := .int) (C := RX4) (T := TX4) (N := 4) hx hb hts hiX4 tyX4 tyX4_ok nmX4 hown hK hP hD hS 11 wXg11 rfl 2 (by decide) (hts (.fieldLink RX4 19 "ArcGuesser$Measures" "threeArcFactor" "I") (List.mem_of_getElem? (i := 2) rfl)) (fun _ h9 => h9) rfl (by decide +kernel) rfl rfl (Nat.le_of_ble_eq_true rfl) dX4_setPaths_7 (fun H locs hP hD hS => ?_)
  have hP := wXfP11_2 hP
  have hD := wXfD11_2 hD
  refine lv_aload_n hx hb dX4_setPaths_10 rfl (lv_at hl 0 rfl) ?_
  refine lv_iload_n hx hb dX4_setPaths_11 rfl (lv_at hl 3 rfl) ?_
  refine va_put (D := D) (ci := 4) (v := .int p3) (ty := .int) (C := RX4) (T := TX4) (N := 4) hx hb hts hiX4 tyX4 tyX4_ok nmX4 hown hK hP hD hS 11 wXg11 rfl 3 (by decide) (hts (.fieldLink RX4 22 "ArcGuesser$Measures" "wanderSteps" "I") (List.mem_of_getElem? (i := 3) rfl)) (fun _ h9 => h9) rfl (by decide +kernel) rfl rfl (Nat.le_of_ble_eq_true rfl) dX4_setPaths_12 (fun H locs hP hD hS => ?_)
  have hP := wXfP11_3 hP
  have hD := wXfD11_3 hD
  exact W.vret hx hb hr (fun t ht hW => ⟨⟨(sI (sI (sI σ 11 1 p1) 11 2 p2) 11 3 p3), rfl, hq, by rw [ht]; exact hP, hD⟩, hS.F ht⟩) hS.2.2 dX4_setPaths_15
/-! ArcGuesser$Mix.reset()V -/
def X5_reset_wp (σ : Sto)  (Post : Sto → Prop) : Prop :=
  (fill_wp σ 13 11 (0 : Int32) (fun σ1 => (vp_in (0 : Int32) 11 ∧ (Post (sI σ1 13 ((0 : Int32)).toNatClampNeg (1 : Int32))))))
set_option maxHeartbeats 4000000 in
set_option maxRecDepth 100000 in
theorem mtX5_reset (l : Launch) (D : va_G) (ad : Nat → Nat) (cA : Nat → ClassId) (A : Nat → Prop) (σ : Sto)  (Post : Sto → Prop) (hwp : X5_reset_wp σ  Post) : Met l yX5_reset wsX5_reset ({ frames := 1, cells := 0, slots := 0, locals := 23 }) (va_Pc [.ref (ad 12)] (stW D (tyX cA) nwX (wX ad cA) A σ)) (va_Qv Post (enW D (wX ad cA) A) A) 0 0 A := by
  refine Met.ofW (cc := cX5_reset) (maxL := 1) (ret := none) (by decide) rfl ?_
  intro p e s m args below meth c s₁ B hml hv
  obtain ⟨rfl, hA, hN, hP, hK, hD⟩ := hv
  have hx := B.exec
  have hb := B.bytes
  have hr := B.returns
  have hts := atoms_spec (ws := wsX5_reset) B.pre
  have hown : s.vm.findClass RX5 = some m.cls := findClass_of_methodNamed B.named
  have hlocks := B.notSynchronized
  have hiX5 : ∀ w ∈ wsX50, w ∈ wsX5_reset := by decide +kernel
  have hS : va_S A s.heap s.heap [] := va_S.rf
  have hl := lv_entry ([.ref (ad 12)]) (n := 1) (Nat.le_of_ble_eq_true rfl)
  rw [lg_entry_eq]
  generalize (lg_sl ([.ref (ad 12)]) ++ List.replicate (1 - (lg_sl ([.ref (ad 12)])).length) Slot.unset).toArray = ls at hl ⊢
  have hl : lv_has ls 1 [(0, .ref (ad 12))] := hl
  have hq := hwp
  unfold X5_reset_wp at hq
  refine lv_aload_n hx hb dX5_reset_0 rfl (lv_at hl 0 rfl) ?_
  refine va_get (D := D) (ci := 5) (v := .ref (ad 13)) (C := RX5) (T := TX5) (N := 2) hx hb hts hiX5 hown hK hP 12 wXg12 rfl 1 (by decide) (hts (.fieldLink RX5 9 "ArcGuesser$Mix" "weights" "[I") (List.mem_of_getElem? (i := 1) rfl)) (fun _ h9 => h9) rfl dX5_reset_1 ?_
  refine lv_iconst (v := (0 : Int32)) hx hb dX5_reset_4 (by decide) ?_
  refine w_callv (va_runS (As := [.ref (ad 13), .int (0 : Int32)]) (rest := []) ⟨hx, hb, hml, hown, hts⟩ (cJ7_fill l D (wX ad cA) ad cA (tyX cA) (nwX) A 13 11 rfl (fun _ => rfl) (fun _ _ _ => rfl) (by decide) σ (0 : Int32) _ hq) (va_cwS 2 hts gX5_reset_J7_fill_53178 rfl rfl rfl (by decide +kernel) ⟨Nat.le_of_ble_eq_true rfl, Nat.le_of_ble_eq_true rfl⟩) ⟨stW_blind nwX_ok, stW_pass hA hS hN hK hP hD nwX_ok⟩ rfl rfl hl.1 rfl (lv_room (Nat.le_of_ble_eq_true rfl)) dX5_reset_5 ⟨Nat.le_of_ble_eq_true rfl, Nat.le_of_ble_eq_true rfl⟩) hS (fun σ1 H locs hq hP hD hS => ?_)
  refine lv_aload_n hx hb dX5_reset_8 rfl (lv_at hl 0 rfl) ?_
  refine va_get (D := D) (ci := 5) (v := .ref (ad 13)) (C := RX5) (T := TX5) (N := 2) hx hb hts hiX5 hown hK hP 12 wXg12 rfl 1 (by decide) (hts (.fieldLink RX5 9 "ArcGuesser$Mix" "weights" "[I") (List.mem_of_getElem? (i := 1) rfl)) (fun _ h9 => h9) rfl dX5_reset_9 ?_
  refine lv_iconst (v := (0 : Int32)) hx hb dX5_reset_12 (by decide) ?_
  refine lv_iconst (v := (1 : Int32)) hx hb dX5_reset_13 (by decide) ?_
  refine va_iast hx hb hK hP hD hS 13 0 wXg13 rfl hq.1 dX5_reset_14 (fun H locs hP hD hS => ?_)
  have hP := wXsP13 hP
  have hD := wXsD13 hD
  have hq := hq.2
  exact W.vret hx hb hr (fun t ht hW => ⟨⟨(sI σ1 13 ((0 : Int32)).toNatClampNeg (1 : Int32)), rfl, hq, by rw [ht]; exact hP, hD⟩, hS.F ht⟩) hS.2.2 dX5_reset_15
