/-! ArcGuesser$Learner.canLearn(I)Z -/
def X3_canLearn_wp (σ : Sto) (p0 : Int32) (Post : Int32 → Sto → Prop) : Prop :=
  ((¬ ((p0).toUInt32 >>> (((11 : Int32)).toUInt32 &&& Int32.toUInt32 31)).toInt32 = 0 → (((0 : Int32) = 0 → (Post (0 : Int32) σ)) ∧ (¬ (0 : Int32) = 0 → (J6_bitCount_0f7a4_wp σ p0 (fun r1 σ1 => (X7_isWithin_wp σ1 r1 (1 : Int32) (3 : Int32) (fun r2 σ2 => ((r2 = 0 → (Post (0 : Int32) σ2)) ∧ (¬ r2 = 0 → (Post (1 : Int32) σ2)))))))))) ∧ (((p0).toUInt32 >>> (((11 : Int32)).toUInt32 &&& Int32.toUInt32 31)).toInt32 = 0 → (((1 : Int32) = 0 → (Post (0 : Int32) σ)) ∧ (¬ (1 : Int32) = 0 → (J6_bitCount_0f7a4_wp σ p0 (fun r3 σ3 => (X7_isWithin_wp σ3 r3 (1 : Int32) (3 : Int32) (fun r4 σ4 => ((r4 = 0 → (Post (0 : Int32) σ4)) ∧ (¬ r4 = 0 → (Post (1 : Int32) σ4)))))))))))
set_option maxHeartbeats 4000000 in
set_option maxRecDepth 100000 in
theorem mtX3_canLearn (l : Launch) (D : va_G) (ad : Nat → Nat) (cA : Nat → ClassId) (A : Nat → Prop) (σ : Sto) (p0 : Int32) (Post : Int32 → Sto → Prop) (hwp : X3_canLearn_wp σ p0 Post) : Met l yX3_canLearn wsX3_canLearn ({ frames := 1, cells := 0, slots := 0, locals := 22 }) (va_Pc [.int p0] (stW D (tyX cA) nwX (wX ad cA) A σ)) (va_Qi Post (enW D (wX ad cA) A) A) 0 0 A := by
  refine Met.ofW (cc := cX3_canLearn) (maxL := 2) (ret := (some .boolean)) (by decide) rfl ?_
  intro p e s m args below meth c s₁ B hml hv
  obtain ⟨rfl, hA, hN, hP, hK, hD⟩ := hv
  have hx := B.exec
  have hb := B.bytes
  have hr := B.returns
  have hts := atoms_spec (ws := wsX3_canLearn) B.pre
  have hown : s.vm.findClass RX3 = some m.cls := findClass_of_methodNamed B.named
  have hlocks := B.notSynchronized
  have hS : va_S A s.heap s.heap [] := va_S.rf
  have hl := lv_entry ([.int p0]) (n := 2) (Nat.le_of_ble_eq_true rfl)
  rw [lg_entry_eq]
  generalize (lg_sl ([.int p0]) ++ List.replicate (2 - (lg_sl ([.int p0])).length) Slot.unset).toArray = ls at hl ⊢
  have hl : lv_has ls 2 [(0, .int p0)] := hl
  have hq := hwp
  unfold X3_canLearn_wp at hq
  refine lv_iload_n hx hb dX3_canLearn_0 rfl (lv_at hl 0 rfl) ?_
  refine lv_bipush (v := (11 : Int32)) hx hb dX3_canLearn_1 (by decide) ?_
  refine lv_iushr hx hb dX3_canLearn_3 rfl ?_
  refine lv_if_ne (tgt := 11) hx hb dX3_canLearn_4 (by decide) (fun hc => ?_) (fun hc => ?_)
  · have hq := hq.1 hc
    refine lv_iconst (v := (0 : Int32)) hx hb dX3_canLearn_11 (by decide) ?_
    refine lv_istore_n (lv' := [(1, .int (0 : Int32)), (0, .int p0)]) hx hb dX3_canLearn_12 rfl hl (by decide) rfl (fun ls hl => ?_)
    refine lv_iload_n hx hb dX3_canLearn_13 rfl (lv_at hl 0 rfl) ?_
    refine lv_if_eq (tgt := 33) hx hb dX3_canLearn_14 (by decide) (fun hc => ?_) (fun hc => ?_)
    · have hq := hq.1 hc
      refine lv_iconst (v := (0 : Int32)) hx hb dX3_canLearn_33 (by decide) ?_
      exact W.zret (v := (0 : Int32)) hx hb hr rfl (fun t ht hW => ⟨⟨(0 : Int32), σ, rfl, hq, by rw [ht]; exact hP, hD⟩, hS.F ht⟩) hS.2.2 dX3_canLearn_34
    · have hq := hq.2 hc
      refine lv_iload_n hx hb dX3_canLearn_17 rfl (lv_at hl 1 rfl) ?_
      refine w_calli (va_runS (As := [.int p0]) (rest := []) ⟨hx, hb, hml, hown, hts⟩ (mtJ6_bitCount_0f7a4 l D (wX ad cA) (tyX cA) nwX A σ p0 _ hq) (va_cwS 1 hts gX3_canLearn_J6_bitCount_0f7a4 rfl rfl rfl (by decide +kernel) ⟨Nat.le_of_ble_eq_true rfl, Nat.le_of_ble_eq_true rfl⟩) ⟨stW_blind nwX_ok, stW_pass hA hS hN hK hP hD nwX_ok⟩ rfl rfl hl.1 rfl (lv_room (Nat.le_of_ble_eq_true rfl)) dX3_canLearn_18 ⟨Nat.le_of_ble_eq_true rfl, Nat.le_of_ble_eq_true rfl⟩) hS (fun r1 σ1 H locs hq hP hD hS => ?_)
      refine lv_iconst (v := (1 : Int32)) hx hb dX3_canLearn_21 (by decide) ?_
      refine lv_iconst (v := (3 : Int32)) hx hb dX3_canLearn_22 (by decide) ?_
      refine w_calli (va_runSN (As := [.int r1, .int (1 : Int32), .int (3 : Int32)]) (rest := []) ⟨hx, hb, hml, hown, hts⟩ (mtX7_isWithin l D ad cA A σ1 r1 (1 : Int32) (3 : Int32) _ hq) ⟨va_cnB 3 hts ggX3_canLearn_X7_isWithin rfl rfl rfl (hN (.methodLinkNest RX3 32 yX7_isWithin "ArcGuesser") (List.mem_of_getElem? (i := 62) rfl)) (hts (.initialized RX7) (List.mem_of_getElem? (i := 9) rfl)) (by decide +kernel) ⟨Nat.le_of_ble_eq_true rfl, Nat.le_of_ble_eq_true rfl⟩, hts (.static yX7_isWithin) (List.mem_of_getElem? (i := 8) rfl), trivial⟩ ⟨stW_blind nwX_ok, stW_pass hA hS hN hK hP hD nwX_ok⟩ rfl rfl hl.1 rfl (lv_room (Nat.le_of_ble_eq_true rfl)) dX3_canLearn_23 ⟨Nat.le_of_ble_eq_true rfl, Nat.le_of_ble_eq_true rfl⟩) hS (fun r2 σ2 H locs hq hP hD hS => ?_)
      refine lv_if_eq (tgt := 33) hx hb dX3_canLearn_26 (by decide) (fun hc => ?_) (fun hc => ?_)
      · have hq := hq.1 hc
        refine lv_iconst (v := (0 : Int32)) hx hb dX3_canLearn_33 (by decide) ?_
        exact W.zret (v := (0 : Int32)) hx hb hr rfl (fun t ht hW => ⟨⟨(0 : Int32), σ2, rfl, hq, by rw [ht]; exact hP, hD⟩, hS.F ht⟩) hS.2.2 dX3_canLearn_34
      · have hq := hq.2 hc
        refine lv_iconst (v := (1 : Int32)) hx hb dX3_canLearn_29 (by decide) ?_
        refine lv_goto (tgt := 34) hx hb dX3_canLearn_30 (by decide) ?_
        exact W.zret (v := (1 : Int32)) hx hb hr rfl (fun t ht hW => ⟨⟨(1 : Int32), σ2, rfl, hq, by rw [ht]; exact hP, hD⟩, hS.F ht⟩) hS.2.2 dX3_canLearn_34
  · have hq := hq.2 hc
    refine lv_iconst (v := (1 : Int32)) hx hb dX3_canLearn_7 (by decide) ?_
    refine lv_goto (tgt := 12) hx hb dX3_canLearn_8 (by decide) ?_
    refine lv_istore_n (lv' := [(1, .int (1 : Int32)), (0, .int p0)]) hx hb dX3_canLearn_12 rfl hl (by decide) rfl (fun ls hl => ?_)
    refine lv_iload_n hx hb dX3_canLearn_13 rfl (lv_at hl 0 rfl) ?_
    refine lv_if_eq (tgt := 33) hx hb dX3_canLearn_14 (by decide) (fun hc => ?_) (fun hc => ?_)
    · have hq := hq.1 hc
      refine lv_iconst (v := (0 : Int32)) hx hb dX3_canLearn_33 (by decide) ?_
      exact W.zret (v := (0 : Int32)) hx hb hr rfl (fun t ht hW => ⟨⟨(0 : Int32), σ, rfl, hq, by rw [ht]; exact hP, hD⟩, hS.F ht⟩) hS.2.2 dX3_canLearn_34
    · have hq := hq.2 hc
      refine lv_iload_n hx hb dX3_canLearn_17 rfl (lv_at hl 1 rfl) ?_
      refine w_calli (va_runS (As := [.int p0]) (rest := []) ⟨hx, hb, hml, hown, hts⟩ (mtJ6_bitCount_0f7a4 l D (wX ad cA) (tyX cA) nwX A σ p0 _ hq) (va_cwS 1 hts gX3_canLearn_J6_bitCount_0f7a4 rfl rfl rfl (by decide +kernel) ⟨Nat.le_of_ble_eq_true rfl, Nat.le_of_ble_eq_true rfl⟩) ⟨stW_blind nwX_ok, stW_pass hA hS hN hK hP hD nwX_ok⟩ rfl rfl hl.1 rfl (lv_room (Nat.le_of_ble_eq_true rfl)) dX3_canLearn_18 ⟨Nat.le_of_ble_eq_true rfl, Nat.le_of_ble_eq_true rfl⟩) hS (fun r3 σ3 H locs hq hP hD hS => ?_)
      refine lv_iconst (v := (1 : Int32)) hx hb dX3_canLearn_21 (by decide) ?_
      refine lv_iconst (v := (3 : Int32)) hx hb dX3_canLearn_22 (by decide) ?_
      refine w_calli (va_runSN (As := [.int r3, .int (1 : Int32), .int (3 : Int32)]) (rest := []) ⟨hx, hb, hml, hown, hts⟩ (mtX7_isWithin l D ad cA A σ3 r3 (1 : Int32) (3 : Int32) _ hq) ⟨va_cnB 3 hts ggX3_canLearn_X7_isWithin rfl rfl rfl (hN (.methodLinkNest RX3 32 yX7_isWithin "ArcGuesser") (List.mem_of_getElem? (i := 62) rfl)) (hts (.initialized RX7) (List.mem_of_getElem? (i := 9) rfl)) (by decide +kernel) ⟨Nat.le_of_ble_eq_true rfl, Nat.le_of_ble_eq_true rfl⟩, hts (.static yX7_isWithin) (List.mem_of_getElem? (i := 8) rfl), trivial⟩ ⟨stW_blind nwX_ok, stW_pass hA hS hN hK hP hD nwX_ok⟩ rfl rfl hl.1 rfl (lv_room (Nat.le_of_ble_eq_true rfl)) dX3_canLearn_23 ⟨Nat.le_of_ble_eq_true rfl, Nat.le_of_ble_eq_true rfl⟩) hS (fun r4 σ4 H locs hq hP hD hS => ?_)
      refine lv_if_eq (tgt := 33) hx hb dX3_canLearn_26 (by decide) (fun hc => ?_) (fun hc => ?_)
      · have hq := hq.1 hc
        refine lv_iconst (v := (0 : Int32)) hx hb dX3_canLearn_33 (by decide) ?_
        exact W.zret (v := (0 : Int32)) hx hb hr rfl (fun t ht hW => ⟨⟨(0 : Int32), σ4, rfl, hq, by rw [ht]; exact hP, hD⟩, hS.F ht⟩) hS.2.2 dX3_canLearn_34
      · have hq := hq.2 hc
        refine lv_iconst (v := (1 : Int32)) hx hb dX3_canLearn_29 (by decide) ?_
        refine lv_goto (tgt := 34) hx hb dX3_canLearn_30 (by decide) ?_
        exact W.zret (v := (1 : Int32)) hx hb hr rfl (fun t ht hW => ⟨⟨(1 : Int32), σ4, rfl, hq, by rw [ht]; exact hP, hD⟩, hS.F ht⟩) hS.2.2 dX3_canLearn_34
/-! ArcGuesser$Learner.choose(I)V -/
def X3_choose_b7 (p1 : Int32) (K7 : Sto → Int32 → Prop) (Post : Sto → Prop) (σ : Sto) (v2 : Int32) : Prop :=
  (((11 : Int32) ≤ v2 → (Post σ)) ∧ (¬ (11 : Int32) ≤ v2 → (((3 : Int32) ≤ (σ.1 20 0) → (Post σ)) ∧ (¬ (3 : Int32) ≤ (σ.1 20 0) → ((¬ ((p1 >>> (v2 &&& 31)) &&& (1 : Int32)) = (1 : Int32) → (K7 σ (v2 + (1 : Int32)))) ∧ (((p1 >>> (v2 &&& 31)) &&& (1 : Int32)) = (1 : Int32) → (vp_in (σ.1 20 0) 3 ∧ (K7 (sI (sI σ 21 ((σ.1 20 0)).toNatClampNeg v2) 20 0 ((σ.1 20 0) + (1 : Int32))) (v2 + (1 : Int32))))))))))
def X3_choose_wp (σ : Sto) (p1 : Int32) (Post : Sto → Prop) : Prop := ∀ (K7 : Sto → Int32 → Prop), (∀ (σ : Sto) (v2 : Int32), X3_choose_b7 p1 K7 Post σ v2 → K7 σ v2) → 
  (K7 (sI σ 20 0 (0 : Int32)) (0 : Int32))
set_option maxHeartbeats 4000000 in
set_option maxRecDepth 100000 in
theorem mtX3_choose (l : Launch) (D : va_G) (ad : Nat → Nat) (cA : Nat → ClassId) (A : Nat → Prop) (σ : Sto) (p1 : Int32) (Post : Sto → Prop) (hwp : X3_choose_wp σ p1 Post) : Met l yX3_choose wsX3_choose ({ frames := 0, cells := 0, slots := 0, locals := 0 }) (va_Pc [.ref (ad 20), .int p1] (stW D (tyX cA) nwX (wX ad cA) A σ)) (va_Qv Post (enW D (wX ad cA) A) A) 0 0 A := by
  refine Met.ofW (cc := cX3_choose) (maxL := 3) (ret := none) (by decide) rfl ?_
  intro p e s m args below meth c s₁ B hml hv
  obtain ⟨rfl, hA, hN, hP, hK, hD⟩ := hv
  have hx := B.exec
  have hb := B.bytes
  have hr := B.returns
  have hts := atoms_spec (ws := wsX3_choose) B.pre
  have hown : s.vm.findClass RX3 = some m.cls := findClass_of_methodNamed B.named
  have hlocks := B.notSynchronized
  have hiX3 : ∀ w ∈ wsX30, w ∈ wsX3_choose := by decide +kernel
  have hS : va_S A s.heap s.heap [] := va_S.rf
  have hl := lv_entry ([.ref (ad 20), .int p1]) (n := 3) (Nat.le_of_ble_eq_true rfl)
  rw [lg_entry_eq]
  generalize (lg_sl ([.ref (ad 20), .int p1]) ++ List.replicate (3 - (lg_sl ([.ref (ad 20), .int p1])).length) Slot.unset).toArray = ls at hl ⊢
  have hl : lv_has ls 3 [(0, .ref (ad 20)), (1, .int p1)] := hl
  obtain ⟨K7, hK7⟩ : ∃ K : Sto → Int32 → Prop, K = fun (σ : Sto) (v2 : Int32) => ∀ (H : Heap) (locs : List Loc) (ls : Array Slot), va_P D vwCl ((wX ad cA) σ) H → va_D A ((wX ad cA) σ) → va_S A s.heap H locs → lv_has ls 3 [(0, .ref (ad 20)), (1, .int p1), (2, .int v2)] → W p l e (headSpec wsX3_choose ({ frames := 0, cells := 0, slots := 0, locals := 0 })).room s m ([.ref (ad 20), .int p1] : List Value).toArray below meth c H locs 0 0 (MQ below (va_Qv Post (enW D (wX ad cA) A) A) ([.ref (ad 20), .int p1] : List Value).toArray s 0 0 A) (F0 m 7 ls []) := ⟨_, rfl⟩
  have hk7 : ∀ (σ : Sto) (v2 : Int32), X3_choose_b7 p1 K7 Post σ v2 → K7 σ v2 := by
    intro σ v2 hq
    rw [hK7]
    intro H locs ls hP hD hS hl
    unfold X3_choose_b7 at hq
    refine lv_iload_n hx hb dX3_choose_7 rfl (lv_at hl 2 rfl) ?_
    refine lv_bipush (v := (11 : Int32)) hx hb dX3_choose_8 (by decide) ?_
    refine lv_icmp_ge (tgt := 56) hx hb dX3_choose_10 (by decide) (fun hc => ?_) (fun hc => ?_)
    · have hq := hq.1 hc
      exact W.vret hx hb hr (fun t ht hW => ⟨⟨σ, rfl, hq, by rw [ht]; exact hP, hD⟩, hS.F ht⟩) hS.2.2 dX3_choose_56
    · have hq := hq.2 hc
      refine lv_aload_n hx hb dX3_choose_13 rfl (lv_at hl 0 rfl) ?_
      refine va_get (D := D) (ci := 3) (v := .int (σ.1 20 0)) (C := RX3) (T := TX3) (N := 5) hx hb hts hiX3 hown hK hP 20 wXg20 rfl 0 (by decide) (hts (.fieldLink RX3 36 "ArcGuesser$Learner" "chosenTotal" "I") (List.mem_of_getElem? (i := 1) rfl)) (fun _ h9 => h9) rfl dX3_choose_14 ?_
      refine lv_iconst (v := (3 : Int32)) hx hb dX3_choose_17 (by decide) ?_
      refine lv_icmp_ge (tgt := 56) hx hb dX3_choose_18 (by decide) (fun hc => ?_) (fun hc => ?_)
      · have hq := hq.1 hc
        exact W.vret hx hb hr (fun t ht hW => ⟨⟨σ, rfl, hq, by rw [ht]; exact hP, hD⟩, hS.F ht⟩) hS.2.2 dX3_choose_56
      · have hq := hq.2 hc
        refine lv_iload_n hx hb dX3_choose_21 rfl (lv_at hl 1 rfl) ?_
        refine lv_iload_n hx hb dX3_choose_22 rfl (lv_at hl 2 rfl) ?_
        refine lv_ishr hx hb dX3_choose_23 ?_
        refine lv_iconst (v := (1 : Int32)) hx hb dX3_choose_24 (by decide) ?_
        refine lv_iand hx hb dX3_choose_25 ?_
        refine lv_iconst (v := (1 : Int32)) hx hb dX3_choose_26 (by decide) ?_
        refine lv_icmp_ne (tgt := 50) hx hb dX3_choose_27 (by decide) (fun hc => ?_) (fun hc => ?_)
        · have hq := hq.1 hc
          refine lv_iinc (v := (v2 + (1 : Int32))) (lv' := [(2, .int (v2 + (1 : Int32))), (0, .ref (ad 20)), (1, .int p1)]) hx hb dX3_choose_50 hl (k := 2) rfl (by rfl) (by decide) rfl (fun ls hl => ?_)
          refine lv_goto (tgt := 7) hx hb dX3_choose_53 (by decide) ?_
          rw [hK7] at hq
          exact hq _ _ _ hP hD hS (lv_sub hl [1, 2, 0] rfl)
        · have hq := hq.2 hc
          refine lv_aload_n hx hb dX3_choose_30 rfl (lv_at hl 0 rfl) ?_
          refine va_get (D := D) (ci := 3) (v := .ref (ad 21)) (C := RX3) (T := TX3) (N := 5) hx hb hts hiX3 hown hK hP 20 wXg20 rfl 1 (by decide) (hts (.fieldLink RX3 9 "ArcGuesser$Learner" "chosen" "[I") (List.mem_of_getElem? (i := 2) rfl)) (fun _ h9 => h9) rfl dX3_choose_31 ?_
          refine lv_aload_n hx hb dX3_choose_34 rfl (lv_at hl 0 rfl) ?_
          refine va_get (D := D) (ci := 3) (v := .int (σ.1 20 0)) (C := RX3) (T := TX3) (N := 5) hx hb hts hiX3 hown hK hP 20 wXg20 rfl 0 (by decide) (hts (.fieldLink RX3 36 "ArcGuesser$Learner" "chosenTotal" "I") (List.mem_of_getElem? (i := 1) rfl)) (fun _ h9 => h9) rfl dX3_choose_35 ?_
          refine lv_iload_n hx hb dX3_choose_38 rfl (lv_at hl 2 rfl) ?_
          refine va_iast hx hb hK hP hD hS 21 0 wXg21 rfl hq.1 dX3_choose_39 (fun H locs hP hD hS => ?_)
          have hP := wXsP21 hP
          have hD := wXsD21 hD
          have hq := hq.2
          refine lv_aload_n hx hb dX3_choose_40 rfl (lv_at hl 0 rfl) ?_
          refine lv_dup hx hb dX3_choose_41 rfl ?_
          refine va_get (D := D) (ci := 3) (v := .int (σ.1 20 0)) (C := RX3) (T := TX3) (N := 5) hx hb hts hiX3 hown hK hP 20 wXg20 rfl 0 (by decide) (hts (.fieldLink RX3 36 "ArcGuesser$Learner" "chosenTotal" "I") (List.mem_of_getElem? (i := 1) rfl)) (fun _ h9 => h9) rfl dX3_choose_42 ?_
          refine lv_iconst (v := (1 : Int32)) hx hb dX3_choose_45 (by decide) ?_
          refine lv_iadd hx hb dX3_choose_46 ?_
          refine va_put (D := D) (ci := 3) (v := .int ((σ.1 20 0) + (1 : Int32))) (ty := .int) (C := RX3) (T := TX3) (N := 5) hx hb hts hiX3 tyX3 tyX3_ok nmX3 hown hK hP hD hS 20 wXg20 rfl 0 (by decide) (hts (.fieldLink RX3 36 "ArcGuesser$Learner" "chosenTotal" "I") (List.mem_of_getElem? (i := 1) rfl)) (fun _ h9 => h9) rfl (by decide +kernel) rfl rfl (Nat.le_of_ble_eq_true rfl) dX3_choose_47 (fun H locs hP hD hS => ?_)
          have hP := wXfP20_0 hP
          have hD := wXfD20_0 hD
          refine lv_iinc (v := (v2 + (1 : Int32))) (lv' := [(2, .int (v2 + (1 : Int32))), (0, .ref (ad 20)), (1, .int p1)]) hx hb dX3_choose_50 hl (k := 2) rfl (by rfl) (by decide) rfl (fun ls hl => ?_)
          refine lv_goto (tgt := 7) hx hb dX3_choose_53 (by decide) ?_
          rw [hK7] at hq
          exact hq _ _ _ hP hD hS (lv_sub hl [1, 2, 0] rfl)
  have hq := hwp K7 hk7
  refine lv_aload_n hx hb dX3_choose_0 rfl (lv_at hl 0 rfl) ?_
  refine lv_iconst (v := (0 : Int32)) hx hb dX3_choose_1 (by decide) ?_
  refine va_put (D := D) (ci := 3) (v := .int (0 : Int32)) (ty := .int) (C := RX3) (T := TX3) (N := 5) hx hb hts hiX3 tyX3 tyX3_ok nmX3 hown hK hP hD hS 20 wXg20 rfl 0 (by decide) (hts (.fieldLink RX3 36 "ArcGuesser$Learner" "chosenTotal" "I") (List.mem_of_getElem? (i := 1) rfl)) (fun _ h9 => h9) rfl (by decide +kernel) rfl rfl (Nat.le_of_ble_eq_true rfl) dX3_choose_2 (fun H locs hP hD hS => ?_)
  have hP := wXfP20_0 hP
  have hD := wXfD20_0 hD
  refine lv_iconst (v := (0 : Int32)) hx hb dX3_choose_5 (by decide) ?_
  refine lv_istore_n (lv' := [(2, .int (0 : Int32)), (0, .ref (ad 20)), (1, .int p1)]) hx hb dX3_choose_6 rfl hl (by decide) rfl (fun ls hl => ?_)
  rw [hK7] at hq
  exact hq _ _ _ hP hD hS (lv_sub hl [1, 2, 0] rfl)
/-! ArcGuesser$Learner.trialTotal(I)I -/
def X3_trialTotal_b4 (p1 : Int32) (K4 : Sto → Int32 → Int32 → Prop) (Post : Int32 → Sto → Prop) (σ : Sto) (v2 : Int32) (v3 : Int32) : Prop :=
  (((σ.1 20 0) ≤ v3 → (Post v2 σ)) ∧ (¬ (σ.1 20 0) ≤ v3 → (K4 σ (v2 * (p1 + (1 : Int32))) (v3 + (1 : Int32)))))
def X3_trialTotal_wp (σ : Sto) (p1 : Int32) (Post : Int32 → Sto → Prop) : Prop := ∀ (K4 : Sto → Int32 → Int32 → Prop), (∀ (σ : Sto) (v2 : Int32) (v3 : Int32), X3_trialTotal_b4 p1 K4 Post σ v2 v3 → K4 σ v2 v3) → 
  (K4 σ (1 : Int32) (0 : Int32))
set_option maxHeartbeats 4000000 in
set_option maxRecDepth 100000 in
theorem mtX3_trialTotal (l : Launch) (D : va_G) (ad : Nat → Nat) (cA : Nat → ClassId) (A : Nat → Prop) (σ : Sto) (p1 : Int32) (Post : Int32 → Sto → Prop) (hwp : X3_trialTotal_wp σ p1 Post) : Met l yX3_trialTotal wsX3_trialTotal ({ frames := 0, cells := 0, slots := 0, locals := 0 }) (va_Pc [.ref (ad 20), .int p1] (stW D (tyX cA) nwX (wX ad cA) A σ)) (va_Qi Post (enW D (wX ad cA) A) A) 0 0 A := by
  refine Met.ofW (cc := cX3_trialTotal) (maxL := 4) (ret := (some .int)) (by decide) rfl ?_
  intro p e s m args below meth c s₁ B hml hv
  obtain ⟨rfl, hA, hN, hP, hK, hD⟩ := hv
  have hx := B.exec
  have hb := B.bytes
  have hr := B.returns
  have hts := atoms_spec (ws := wsX3_trialTotal) B.pre
  have hown : s.vm.findClass RX3 = some m.cls := findClass_of_methodNamed B.named
  have hlocks := B.notSynchronized
  have hiX3 : ∀ w ∈ wsX30, w ∈ wsX3_trialTotal := by decide +kernel
  have hS : va_S A s.heap s.heap [] := va_S.rf
  have hl := lv_entry ([.ref (ad 20), .int p1]) (n := 4) (Nat.le_of_ble_eq_true rfl)
  rw [lg_entry_eq]
  generalize (lg_sl ([.ref (ad 20), .int p1]) ++ List.replicate (4 - (lg_sl ([.ref (ad 20), .int p1])).length) Slot.unset).toArray = ls at hl ⊢
  have hl : lv_has ls 4 [(0, .ref (ad 20)), (1, .int p1)] := hl
  obtain ⟨K4, hK4⟩ : ∃ K : Sto → Int32 → Int32 → Prop, K = fun (σ : Sto) (v2 : Int32) (v3 : Int32) => ∀ (H : Heap) (locs : List Loc) (ls : Array Slot), va_P D vwCl ((wX ad cA) σ) H → va_D A ((wX ad cA) σ) → va_S A s.heap H locs → lv_has ls 4 [(0, .ref (ad 20)), (1, .int p1), (2, .int v2), (3, .int v3)] → W p l e (headSpec wsX3_trialTotal ({ frames := 0, cells := 0, slots := 0, locals := 0 })).room s m ([.ref (ad 20), .int p1] : List Value).toArray below meth c H locs 0 0 (MQ below (va_Qi Post (enW D (wX ad cA) A) A) ([.ref (ad 20), .int p1] : List Value).toArray s 0 0 A) (F0 m 4 ls []) := ⟨_, rfl⟩
  have hk4 : ∀ (σ : Sto) (v2 : Int32) (v3 : Int32), X3_trialTotal_b4 p1 K4 Post σ v2 v3 → K4 σ v2 v3 := by
    intro σ v2 v3 hq
    rw [hK4]
    intro H locs ls hP hD hS hl
    unfold X3_trialTotal_b4 at hq
    refine lv_iload_n hx hb dX3_trialTotal_4 rfl (lv_at hl 3 rfl) ?_
    refine lv_aload_n hx hb dX3_trialTotal_5 rfl (lv_at hl 0 rfl) ?_
    refine va_get (D := D) (ci := 3) (v := .int (σ.1 20 0)) (C := RX3) (T := TX3) (N := 5) hx hb hts hiX3 hown hK hP 20 wXg20 rfl 0 (by decide) (hts (.fieldLink RX3 36 "ArcGuesser$Learner" "chosenTotal" "I") (List.mem_of_getElem? (i := 1) rfl)) (fun _ h9 => h9) rfl dX3_trialTotal_6 ?_
    refine lv_icmp_ge (tgt := 24) hx hb dX3_trialTotal_9 (by decide) (fun hc => ?_) (fun hc => ?_)
    · have hq := hq.1 hc
      refine lv_iload_n hx hb dX3_trialTotal_24 rfl (lv_at hl 2 rfl) ?_
      exact W.iret (v := v2) hx hb hr (fun t ht hW => ⟨⟨v2, σ, rfl, hq, by rw [ht]; exact hP, hD⟩, hS.F ht⟩) hS.2.2 dX3_trialTotal_25
    · have hq := hq.2 hc
      refine lv_iload_n hx hb dX3_trialTotal_12 rfl (lv_at hl 2 rfl) ?_
      refine lv_iload_n hx hb dX3_trialTotal_13 rfl (lv_at hl 1 rfl) ?_
      refine lv_iconst (v := (1 : Int32)) hx hb dX3_trialTotal_14 (by decide) ?_
      refine lv_iadd hx hb dX3_trialTotal_15 ?_
      refine lv_imul hx hb dX3_trialTotal_16 ?_
      refine lv_istore_n (lv' := [(2, .int (v2 * (p1 + (1 : Int32)))), (0, .ref (ad 20)), (1, .int p1), (3, .int v3)]) hx hb dX3_trialTotal_17 rfl hl (by decide) rfl (fun ls hl => ?_)
      refine lv_iinc (v := (v3 + (1 : Int32))) (lv' := [(3, .int (v3 + (1 : Int32))), (2, .int (v2 * (p1 + (1 : Int32)))), (0, .ref (ad 20)), (1, .int p1)]) hx hb dX3_trialTotal_18 hl (k := 3) rfl (by rfl) (by decide) rfl (fun ls hl => ?_)
      refine lv_goto (tgt := 4) hx hb dX3_trialTotal_21 (by decide) ?_
      rw [hK4] at hq
      exact hq _ _ _ hP hD hS (lv_sub hl [2, 3, 1, 0] rfl)
  have hq := hwp K4 hk4
  refine lv_iconst (v := (1 : Int32)) hx hb dX3_trialTotal_0 (by decide) ?_
  refine lv_istore_n (lv' := [(2, .int (1 : Int32)), (0, .ref (ad 20)), (1, .int p1)]) hx hb dX3_trialTotal_1 rfl hl (by decide) rfl (fun ls hl => ?_)
  refine lv_iconst (v := (0 : Int32)) hx hb dX3_trialTotal_2 (by decide) ?_
  refine lv_istore_n (lv' := [(3, .int (0 : Int32)), (2, .int (1 : Int32)), (0, .ref (ad 20)), (1, .int p1)]) hx hb dX3_trialTotal_3 rfl hl (by decide) rfl (fun ls hl => ?_)
  rw [hK4] at hq
  exact hq _ _ _ hP hD hS (lv_sub hl [2, 3, 1, 0] rfl)
/-! ArcGuesser$Learner.setTried(II)V -/
def X3_setTried_b19 (p1 : Int32) (p2 : Int32) (K19 : Sto → Int32 → Int32 → Int32 → Prop) (Post : Sto → Prop) (σ : Sto) (v3 : Int32) (v4 : Int32) (v5 : Int32) : Prop :=
  ((v5 < 0 → (Post σ)) ∧ (¬ v5 < 0 → ((¬ v3 = 0) ∧ (vp_in v5 3 ∧ ((¬ v3 = 0) ∧ (K19 (sI σ 22 (v5).toNatClampNeg (v4 - v4 / v3 * v3)) v3 (v4 / v3) (v5 + (-1 : Int32))))))))
def X3_setTried_wp (σ : Sto) (p1 : Int32) (p2 : Int32) (Post : Sto → Prop) : Prop := ∀ (K19 : Sto → Int32 → Int32 → Int32 → Prop), (∀ (σ : Sto) (v3 : Int32) (v4 : Int32) (v5 : Int32), X3_setTried_b19 p1 p2 K19 Post σ v3 v4 v5 → K19 σ v3 v4 v5) → 
  (K19 σ ((if p2 < (1 : Int32) then (1 : Int32) else p2) + (1 : Int32)) p1 ((σ.1 20 0) - (1 : Int32)))
set_option maxHeartbeats 4000000 in
set_option maxRecDepth 100000 in
theorem mtX3_setTried (l : Launch) (D : va_G) (ad : Nat → Nat) (cA : Nat → ClassId) (A : Nat → Prop) (σ : Sto) (p1 : Int32) (p2 : Int32) (Post : Sto → Prop) (hwp : X3_setTried_wp σ p1 p2 Post) : Met l yX3_setTried wsX3_setTried ({ frames := 1, cells := 0, slots := 0, locals := 21 }) (va_Pc [.ref (ad 20), .int p1, .int p2] (stW D (tyX cA) nwX (wX ad cA) A σ)) (va_Qv Post (enW D (wX ad cA) A) A) 0 0 A := by
  refine Met.ofW (cc := cX3_setTried) (maxL := 6) (ret := none) (by decide) rfl ?_
  intro p e s m args below meth c s₁ B hml hv
  obtain ⟨rfl, hA, hN, hP, hK, hD⟩ := hv
  have hx := B.exec
  have hb := B.bytes
  have hr := B.returns
  have hts := atoms_spec (ws := wsX3_setTried) B.pre
  have hown : s.vm.findClass RX3 = some m.cls := findClass_of_methodNamed B.named
  have hlocks := B.notSynchronized
  have hiX3 : ∀ w ∈ wsX30, w ∈ wsX3_setTried := by decide +kernel
  have hS : va_S A s.heap s.heap [] := va_S.rf
  have hl := lv_entry ([.ref (ad 20), .int p1, .int p2]) (n := 6) (Nat.le_of_ble_eq_true rfl)
  rw [lg_entry_eq]
  generalize (lg_sl ([.ref (ad 20), .int p1, .int p2]) ++ List.replicate (6 - (lg_sl ([.ref (ad 20), .int p1, .int p2])).length) Slot.unset).toArray = ls at hl ⊢
  have hl : lv_has ls 6 [(0, .ref (ad 20)), (1, .int p1), (2, .int p2)] := hl
  obtain ⟨K19, hK19⟩ : ∃ K : Sto → Int32 → Int32 → Int32 → Prop, K = fun (σ : Sto) (v3 : Int32) (v4 : Int32) (v5 : Int32) => ∀ (H : Heap) (locs : List Loc) (ls : Array Slot), va_P D vwCl ((wX ad cA) σ) H → va_D A ((wX ad cA) σ) → va_S A s.heap H locs → lv_has ls 6 [(0, .ref (ad 20)), (3, .int v3), (4, .int v4), (5, .int v5)] → W p l e (headSpec wsX3_setTried ({ frames := 1, cells := 0, slots := 0, locals := 21 })).room s m ([.ref (ad 20), .int p1, .int p2] : List Value).toArray below meth c H locs 0 0 (MQ below (va_Qv Post (enW D (wX ad cA) A) A) ([.ref (ad 20), .int p1, .int p2] : List Value).toArray s 0 0 A) (F0 m 19 ls []) := ⟨_, rfl⟩
  have hk19 : ∀ (σ : Sto) (v3 : Int32) (v4 : Int32) (v5 : Int32), X3_setTried_b19 p1 p2 K19 Post σ v3 v4 v5 → K19 σ v3 v4 v5 := by
    intro σ v3 v4 v5 hq
    rw [hK19]
    intro H locs ls hP hD hS hl
    unfold X3_setTried_b19 at hq
    refine lv_iload hx hb dX3_setTried_19 (lv_at hl 3 rfl) ?_
    refine lv_if_lt (tgt := 47) hx hb dX3_setTried_21 (by decide) (fun hc => ?_) (fun hc => ?_)
    · have hq := hq.1 hc
      exact W.vret hx hb hr (fun t ht hW => ⟨⟨σ, rfl, hq, by rw [ht]; exact hP, hD⟩, hS.F ht⟩) hS.2.2 dX3_setTried_47
    · have hq := hq.2 hc
      refine lv_aload_n hx hb dX3_setTried_24 rfl (lv_at hl 0 rfl) ?_
      refine va_get (D := D) (ci := 3) (v := .ref (ad 22)) (C := RX3) (T := TX3) (N := 5) hx hb hts hiX3 hown hK hP 20 wXg20 rfl 2 (by decide) (hts (.fieldLink RX3 15 "ArcGuesser$Learner" "tried" "[I") (List.mem_of_getElem? (i := 6) rfl)) (fun _ h9 => h9) rfl dX3_setTried_25 ?_
      refine lv_iload hx hb dX3_setTried_28 (lv_at hl 3 rfl) ?_
      refine lv_iload hx hb dX3_setTried_30 (lv_at hl 2 rfl) ?_
      refine lv_iload_n hx hb dX3_setTried_32 rfl (lv_at hl 1 rfl) ?_
      refine lv_irem hx hb dX3_setTried_33 hq.1 ?_
      have hq := hq.2
      refine va_iast hx hb hK hP hD hS 22 0 wXg22 rfl hq.1 dX3_setTried_34 (fun H locs hP hD hS => ?_)
      have hP := wXsP22 hP
      have hD := wXsD22 hD
      have hq := hq.2
      refine lv_iload hx hb dX3_setTried_35 (lv_at hl 2 rfl) ?_
      refine lv_iload_n hx hb dX3_setTried_37 rfl (lv_at hl 1 rfl) ?_
      refine lv_idiv hx hb dX3_setTried_38 hq.1 ?_
      have hq := hq.2
      refine lv_istore (lv' := [(4, .int (v4 / v3)), (0, .ref (ad 20)), (3, .int v3), (5, .int v5)]) hx hb dX3_setTried_39 hl (by decide) rfl (fun ls hl => ?_)
      refine lv_iinc (v := (v5 + (-1 : Int32))) (lv' := [(5, .int (v5 + (-1 : Int32))), (4, .int (v4 / v3)), (0, .ref (ad 20)), (3, .int v3)]) hx hb dX3_setTried_41 hl (k := 3) rfl (by rfl) (by decide) rfl (fun ls hl => ?_)
      refine lv_goto (tgt := 19) hx hb dX3_setTried_44 (by decide) ?_
      rw [hK19] at hq
      exact hq _ _ _ hP hD hS (lv_sub hl [2, 3, 1, 0] rfl)
  have hq := hwp K19 hk19
  refine lv_iload_n hx hb dX3_setTried_0 rfl (lv_at hl 2 rfl) ?_
  refine lv_iconst (v := (1 : Int32)) hx hb dX3_setTried_1 (by decide) ?_
  refine va_mmax hx hb (by rw [hml]; exact hl.1.symm) hown (hts (.methodLink RX3 75 Lib.Math.max.name) (List.mem_of_getElem? (i := 1) rfl)) (hts (.static Lib.Math.max.name) (List.mem_of_getElem? (i := 2) rfl)) (hts (.initialized "java/lang/Math") (List.mem_of_getElem? (i := 3) rfl)) (hts (.code Lib.Math.max.name Lib.Math.max.code 2 (some .int)) (List.mem_of_getElem? (i := 4) rfl)) (Nat.le_of_ble_eq_true rfl) (Nat.le_of_ble_eq_true rfl) (Nat.zero_le _) (Nat.zero_le _) dX3_setTried_2 ?_
  refine lv_iconst (v := (1 : Int32)) hx hb dX3_setTried_5 (by decide) ?_
  refine lv_iadd hx hb dX3_setTried_6 ?_
  refine lv_istore_n (lv' := [(3, .int ((if p2 < (1 : Int32) then (1 : Int32) else p2) + (1 : Int32))), (0, .ref (ad 20)), (1, .int p1), (2, .int p2)]) hx hb dX3_setTried_7 rfl hl (by decide) rfl (fun ls hl => ?_)
  refine lv_iload_n hx hb dX3_setTried_8 rfl (lv_at hl 2 rfl) ?_
  refine lv_istore (lv' := [(4, .int p1), (3, .int ((if p2 < (1 : Int32) then (1 : Int32) else p2) + (1 : Int32))), (0, .ref (ad 20)), (1, .int p1), (2, .int p2)]) hx hb dX3_setTried_9 hl (by decide) rfl (fun ls hl => ?_)
  refine lv_aload_n hx hb dX3_setTried_11 rfl (lv_at hl 2 rfl) ?_
  refine va_get (D := D) (ci := 3) (v := .int (σ.1 20 0)) (C := RX3) (T := TX3) (N := 5) hx hb hts hiX3 hown hK hP 20 wXg20 rfl 0 (by decide) (hts (.fieldLink RX3 36 "ArcGuesser$Learner" "chosenTotal" "I") (List.mem_of_getElem? (i := 5) rfl)) (fun _ h9 => h9) rfl dX3_setTried_12 ?_
  refine lv_iconst (v := (1 : Int32)) hx hb dX3_setTried_15 (by decide) ?_
  refine lv_isub hx hb dX3_setTried_16 ?_
  refine lv_istore (lv' := [(5, .int ((σ.1 20 0) - (1 : Int32))), (4, .int p1), (3, .int ((if p2 < (1 : Int32) then (1 : Int32) else p2) + (1 : Int32))), (0, .ref (ad 20)), (1, .int p1), (2, .int p2)]) hx hb dX3_setTried_17 hl (by decide) rfl (fun ls hl => ?_)
  rw [hK19] at hq
  exact hq _ _ _ hP hD hS (lv_sub hl [3, 2, 1, 0] rfl)
/-! ArcGuesser$Learner.mixTried(LArcGuesser$Candidates;)V -/
def X3_mixTried_b2  (K2 : Sto → Int32 → Prop) (K15 : Sto → Int32 → Int64 → Int32 → Prop) (Post : Sto → Prop) (σ : Sto) (v2 : Int32) : Prop :=
  (((σ.1 14 1) ≤ v2 → (Post σ)) ∧ (¬ (σ.1 14 1) ≤ v2 → (K15 σ v2 (0 : Int64) (0 : Int32))))
def X3_mixTried_b15  (K2 : Sto → Int32 → Prop) (K15 : Sto → Int32 → Int64 → Int32 → Prop) (Post : Sto → Prop) (σ : Sto) (v2 : Int32) (v3 : Int64) (v5 : Int32) : Prop :=
  (((σ.1 20 0) ≤ v5 → (vp_in v2 132 ∧ (K2 (sJ σ 16 (v2).toNatClampNeg v3) (v2 + (1 : Int32))))) ∧ (¬ (σ.1 20 0) ≤ v5 → (vp_in v5 3 ∧ (vp_in v5 3 ∧ (((v5).toNatClampNeg = 0 → (vp_in v2 132 ∧ (K15 σ v2 (v3 + (((σ.1 22 (v5).toNatClampNeg)).toInt64 * (σ.2 25 (v2).toNatClampNeg))) (v5 + (1 : Int32))))) ∧ ((v5).toNatClampNeg = 1 → (vp_in v2 132 ∧ (K15 σ v2 (v3 + (((σ.1 22 (v5).toNatClampNeg)).toInt64 * (σ.2 26 (v2).toNatClampNeg))) (v5 + (1 : Int32))))) ∧ ((v5).toNatClampNeg = 2 → (vp_in v2 132 ∧ (K15 σ v2 (v3 + (((σ.1 22 (v5).toNatClampNeg)).toInt64 * (σ.2 27 (v2).toNatClampNeg))) (v5 + (1 : Int32))))))))))
def X3_mixTried_wp (σ : Sto)  (Post : Sto → Prop) : Prop := ∀ (K2 : Sto → Int32 → Prop) (K15 : Sto → Int32 → Int64 → Int32 → Prop), (∀ (σ : Sto) (v2 : Int32), X3_mixTried_b2  K2 K15 Post σ v2 → K2 σ v2) → (∀ (σ : Sto) (v2 : Int32) (v3 : Int64) (v5 : Int32), X3_mixTried_b15  K2 K15 Post σ v2 v3 v5 → K15 σ v2 v3 v5) → 
  (K2 σ (0 : Int32))
set_option maxHeartbeats 4000000 in
set_option maxRecDepth 100000 in
theorem mtX3_mixTried (l : Launch) (D : va_G) (ad : Nat → Nat) (cA : Nat → ClassId) (A : Nat → Prop) (σ : Sto)  (Post : Sto → Prop) (hwp : X3_mixTried_wp σ  Post) : Met l yX3_mixTried wsX3_mixTried ({ frames := 0, cells := 0, slots := 0, locals := 0 }) (va_Pc [.ref (ad 20), .ref (ad 14)] (stW D (tyX cA) nwX (wX ad cA) A σ)) (va_Qv Post (enW D (wX ad cA) A) A) 0 0 A := by
  refine Met.ofW (cc := cX3_mixTried) (maxL := 6) (ret := none) (by decide) rfl ?_
  intro p e s m args below meth c s₁ B hml hv
  obtain ⟨rfl, hA, hN, hP, hK, hD⟩ := hv
  have hx := B.exec
  have hb := B.bytes
  have hr := B.returns
  have hts := atoms_spec (ws := wsX3_mixTried) B.pre
  have hown : s.vm.findClass RX3 = some m.cls := findClass_of_methodNamed B.named
  have hlocks := B.notSynchronized
  have hiX1 : ∀ w ∈ wsX10, w ∈ wsX3_mixTried := by decide +kernel
  have hiX3 : ∀ w ∈ wsX30, w ∈ wsX3_mixTried := by decide +kernel
  have hS : va_S A s.heap s.heap [] := va_S.rf
  have hl := lv_entry ([.ref (ad 20), .ref (ad 14)]) (n := 6) (Nat.le_of_ble_eq_true rfl)
  rw [lg_entry_eq]
  generalize (lg_sl ([.ref (ad 20), .ref (ad 14)]) ++ List.replicate (6 - (lg_sl ([.ref (ad 20), .ref (ad 14)])).length) Slot.unset).toArray = ls at hl ⊢
  have hl : lv_has ls 6 [(0, .ref (ad 20)), (1, .ref (ad 14))] := hl
  obtain ⟨K2, hK2⟩ : ∃ K : Sto → Int32 → Prop, K = fun (σ : Sto) (v2 : Int32) => ∀ (H : Heap) (locs : List Loc) (ls : Array Slot), va_P D vwCl ((wX ad cA) σ) H → va_D A ((wX ad cA) σ) → va_S A s.heap H locs → lv_has ls 6 [(0, .ref (ad 20)), (1, .ref (ad 14)), (2, .int v2)] → W p l e (headSpec wsX3_mixTried ({ frames := 0, cells := 0, slots := 0, locals := 0 })).room s m ([.ref (ad 20), .ref (ad 14)] : List Value).toArray below meth c H locs 0 0 (MQ below (va_Qv Post (enW D (wX ad cA) A) A) ([.ref (ad 20), .ref (ad 14)] : List Value).toArray s 0 0 A) (F0 m 2 ls []) := ⟨_, rfl⟩
  obtain ⟨K15, hK15⟩ : ∃ K : Sto → Int32 → Int64 → Int32 → Prop, K = fun (σ : Sto) (v2 : Int32) (v3 : Int64) (v5 : Int32) => ∀ (H : Heap) (locs : List Loc) (ls : Array Slot), va_P D vwCl ((wX ad cA) σ) H → va_D A ((wX ad cA) σ) → va_S A s.heap H locs → lv_has ls 6 [(0, .ref (ad 20)), (1, .ref (ad 14)), (2, .int v2), (3, .long v3), (5, .int v5)] → W p l e (headSpec wsX3_mixTried ({ frames := 0, cells := 0, slots := 0, locals := 0 })).room s m ([.ref (ad 20), .ref (ad 14)] : List Value).toArray below meth c H locs 0 0 (MQ below (va_Qv Post (enW D (wX ad cA) A) A) ([.ref (ad 20), .ref (ad 14)] : List Value).toArray s 0 0 A) (F0 m 15 ls []) := ⟨_, rfl⟩
  have hk2 : ∀ (σ : Sto) (v2 : Int32), X3_mixTried_b2  K2 K15 Post σ v2 → K2 σ v2 := by
    intro σ v2 hq
    rw [hK2]
    intro H locs ls hP hD hS hl
    unfold X3_mixTried_b2 at hq
    refine lv_iload_n hx hb dX3_mixTried_2 rfl (lv_at hl 2 rfl) ?_
    refine lv_aload_n hx hb dX3_mixTried_3 rfl (lv_at hl 1 rfl) ?_
    refine va_getN (D := D) (ci := 1) (v := .int (σ.1 14 1)) (C := RX1) (T := TX1) (N := 9) hx hb hts hiX1 hown hK hP 14 wXg14 rfl 1 (by decide) (va_Nw.use rfl (hN (.fieldLinkNest RX3 40 "ArcGuesser$Candidates" "total" "I" "ArcGuesser") (List.mem_of_getElem? (i := 15) rfl))) (fun _ h9 => h9) rfl dX3_mixTried_4 ?_
    refine lv_icmp_ge (tgt := 64) hx hb dX3_mixTried_7 (by decide) (fun hc => ?_) (fun hc => ?_)
    · have hq := hq.1 hc
      exact W.vret hx hb hr (fun t ht hW => ⟨⟨σ, rfl, hq, by rw [ht]; exact hP, hD⟩, hS.F ht⟩) hS.2.2 dX3_mixTried_64
    · have hq := hq.2 hc
      refine lv_lconst (v := (0 : Int64)) hx hb dX3_mixTried_10 (by decide) ?_
      refine lv_lstore_n (lv' := [(3, .long (0 : Int64)), (0, .ref (ad 20)), (1, .ref (ad 14)), (2, .int v2)]) hx hb dX3_mixTried_11 rfl hl (by decide) rfl (fun ls hl => ?_)
      refine lv_iconst (v := (0 : Int32)) hx hb dX3_mixTried_12 (by decide) ?_
      refine lv_istore (lv' := [(5, .int (0 : Int32)), (3, .long (0 : Int64)), (0, .ref (ad 20)), (1, .ref (ad 14)), (2, .int v2)]) hx hb dX3_mixTried_13 hl (by decide) rfl (fun ls hl => ?_)
      rw [hK15] at hq
      exact hq _ _ _ hP hD hS (lv_sub hl [2, 3, 4, 1, 0] rfl)
  have hk15 : ∀ (σ : Sto) (v2 : Int32) (v3 : Int64) (v5 : Int32), X3_mixTried_b15  K2 K15 Post σ v2 v3 v5 → K15 σ v2 v3 v5 := by
    intro σ v2 v3 v5 hq
    rw [hK15]
    intro H locs ls hP hD hS hl
    unfold X3_mixTried_b15 at hq
    refine lv_iload hx hb dX3_mixTried_15 (lv_at hl 4 rfl) ?_
    refine lv_aload_n hx hb dX3_mixTried_17 rfl (lv_at hl 0 rfl) ?_
    refine va_get (D := D) (ci := 3) (v := .int (σ.1 20 0)) (C := RX3) (T := TX3) (N := 5) hx hb hts hiX3 hown hK hP 20 wXg20 rfl 0 (by decide) (hts (.fieldLink RX3 36 "ArcGuesser$Learner" "chosenTotal" "I") (List.mem_of_getElem? (i := 1) rfl)) (fun _ h9 => h9) rfl dX3_mixTried_18 ?_
    refine lv_icmp_ge (tgt := 51) hx hb dX3_mixTried_21 (by decide) (fun hc => ?_) (fun hc => ?_)
    · have hq := hq.1 hc
      refine lv_aload_n hx hb dX3_mixTried_51 rfl (lv_at hl 1 rfl) ?_
      refine va_getN (D := D) (ci := 1) (v := .ref (ad 16)) (C := RX1) (T := TX1) (N := 9) hx hb hts hiX1 hown hK hP 14 wXg14 rfl 5 (by decide) (va_Nw.use rfl (hN (.fieldLinkNest RX3 81 "ArcGuesser$Candidates" "mixes" "[J" "ArcGuesser") (List.mem_of_getElem? (i := 17) rfl))) (fun _ h9 => h9) rfl dX3_mixTried_52 ?_
      refine lv_iload_n hx hb dX3_mixTried_55 rfl (lv_at hl 2 rfl) ?_
      refine lv_lload_n hx hb dX3_mixTried_56 rfl (lv_at hl 3 rfl) ?_
      refine va_last hx hb hK hP hD hS 16 1 wXg16 rfl hq.1 dX3_mixTried_57 (fun H locs hP hD hS => ?_)
      have hP := wXsP16 hP
      have hD := wXsD16 hD
      have hq := hq.2
      refine lv_iinc (v := (v2 + (1 : Int32))) (lv' := [(2, .int (v2 + (1 : Int32))), (0, .ref (ad 20)), (1, .ref (ad 14)), (3, .long v3), (5, .int v5)]) hx hb dX3_mixTried_58 hl (k := 2) rfl (by rfl) (by decide) rfl (fun ls hl => ?_)
      refine lv_goto (tgt := 2) hx hb dX3_mixTried_61 (by decide) ?_
      rw [hK2] at hq
      exact hq _ _ _ hP hD hS (lv_sub hl [1, 2, 0] rfl)
    · have hq := hq.2 hc
      refine lv_lload_n hx hb dX3_mixTried_24 rfl (lv_at hl 3 rfl) ?_
      refine lv_aload_n hx hb dX3_mixTried_25 rfl (lv_at hl 0 rfl) ?_
      refine va_get (D := D) (ci := 3) (v := .ref (ad 22)) (C := RX3) (T := TX3) (N := 5) hx hb hts hiX3 hown hK hP 20 wXg20 rfl 2 (by decide) (hts (.fieldLink RX3 15 "ArcGuesser$Learner" "tried" "[I") (List.mem_of_getElem? (i := 2) rfl)) (fun _ h9 => h9) rfl dX3_mixTried_26 ?_
      refine lv_iload hx hb dX3_mixTried_29 (lv_at hl 4 rfl) ?_
      refine va_iald hx hb hK hP 22 0 wXg22 rfl hq.1 dX3_mixTried_31 ?_
      have hq := hq.2
      refine lv_i2l hx hb dX3_mixTried_32 rfl ?_
      refine lv_aload_n hx hb dX3_mixTried_33 rfl (lv_at hl 0 rfl) ?_
      refine va_get (D := D) (ci := 3) (v := .ref (ad 24)) (C := RX3) (T := TX3) (N := 5) hx hb hts hiX3 hown hK hP 20 wXg20 rfl 4 (by decide) (hts (.fieldLink RX3 23 "ArcGuesser$Learner" "parts" "[[J") (List.mem_of_getElem? (i := 3) rfl)) (fun _ h9 => h9) rfl dX3_mixTried_34 ?_
      refine lv_iload hx hb dX3_mixTried_37 (lv_at hl 4 rfl) ?_
      have h3 := hq.1
      have hq := hq.2
      rcases in3 h3 with hc | hc | hc
      · have hq := hq.1 hc
        refine va_aldM hx hb hK hP 24 2 wXg24 rfl h3 0 hc rfl dX3_mixTried_39 ?_
        refine lv_iload_n hx hb dX3_mixTried_40 rfl (lv_at hl 2 rfl) ?_
        refine va_lald hx hb hK hP 25 1 wXg25 rfl hq.1 dX3_mixTried_41 ?_
        have hq := hq.2
        refine lv_lmul hx hb dX3_mixTried_42 ?_
        refine lv_ladd hx hb dX3_mixTried_43 ?_
        refine lv_lstore_n (lv' := [(3, .long (v3 + (((σ.1 22 (v5).toNatClampNeg)).toInt64 * (σ.2 25 (v2).toNatClampNeg)))), (0, .ref (ad 20)), (1, .ref (ad 14)), (2, .int v2), (5, .int v5)]) hx hb dX3_mixTried_44 rfl hl (by decide) rfl (fun ls hl => ?_)
        refine lv_iinc (v := (v5 + (1 : Int32))) (lv' := [(5, .int (v5 + (1 : Int32))), (3, .long (v3 + (((σ.1 22 (v5).toNatClampNeg)).toInt64 * (σ.2 25 (v2).toNatClampNeg)))), (0, .ref (ad 20)), (1, .ref (ad 14)), (2, .int v2)]) hx hb dX3_mixTried_45 hl (k := 4) rfl (by rfl) (by decide) rfl (fun ls hl => ?_)
        refine lv_goto (tgt := 15) hx hb dX3_mixTried_48 (by decide) ?_
        rw [hK15] at hq
        exact hq _ _ _ hP hD hS (lv_sub hl [2, 3, 4, 1, 0] rfl)
      · have hq := hq.2.1 hc
        refine va_aldM hx hb hK hP 24 2 wXg24 rfl h3 1 hc rfl dX3_mixTried_39 ?_
        refine lv_iload_n hx hb dX3_mixTried_40 rfl (lv_at hl 2 rfl) ?_
        refine va_lald hx hb hK hP 26 1 wXg26 rfl hq.1 dX3_mixTried_41 ?_
        have hq := hq.2
        refine lv_lmul hx hb dX3_mixTried_42 ?_
        refine lv_ladd hx hb dX3_mixTried_43 ?_
        refine lv_lstore_n (lv' := [(3, .long (v3 + (((σ.1 22 (v5).toNatClampNeg)).toInt64 * (σ.2 26 (v2).toNatClampNeg)))), (0, .ref (ad 20)), (1, .ref (ad 14)), (2, .int v2), (5, .int v5)]) hx hb dX3_mixTried_44 rfl hl (by decide) rfl (fun ls hl => ?_)
        refine lv_iinc (v := (v5 + (1 : Int32))) (lv' := [(5, .int (v5 + (1 : Int32))), (3, .long (v3 + (((σ.1 22 (v5).toNatClampNeg)).toInt64 * (σ.2 26 (v2).toNatClampNeg)))), (0, .ref (ad 20)), (1, .ref (ad 14)), (2, .int v2)]) hx hb dX3_mixTried_45 hl (k := 4) rfl (by rfl) (by decide) rfl (fun ls hl => ?_)
        refine lv_goto (tgt := 15) hx hb dX3_mixTried_48 (by decide) ?_
        rw [hK15] at hq
        exact hq _ _ _ hP hD hS (lv_sub hl [2, 3, 4, 1, 0] rfl)
      · have hq := hq.2.2 hc
        refine va_aldM hx hb hK hP 24 2 wXg24 rfl h3 2 hc rfl dX3_mixTried_39 ?_
        refine lv_iload_n hx hb dX3_mixTried_40 rfl (lv_at hl 2 rfl) ?_
        refine va_lald hx hb hK hP 27 1 wXg27 rfl hq.1 dX3_mixTried_41 ?_
        have hq := hq.2
        refine lv_lmul hx hb dX3_mixTried_42 ?_
        refine lv_ladd hx hb dX3_mixTried_43 ?_
        refine lv_lstore_n (lv' := [(3, .long (v3 + (((σ.1 22 (v5).toNatClampNeg)).toInt64 * (σ.2 27 (v2).toNatClampNeg)))), (0, .ref (ad 20)), (1, .ref (ad 14)), (2, .int v2), (5, .int v5)]) hx hb dX3_mixTried_44 rfl hl (by decide) rfl (fun ls hl => ?_)
        refine lv_iinc (v := (v5 + (1 : Int32))) (lv' := [(5, .int (v5 + (1 : Int32))), (3, .long (v3 + (((σ.1 22 (v5).toNatClampNeg)).toInt64 * (σ.2 27 (v2).toNatClampNeg)))), (0, .ref (ad 20)), (1, .ref (ad 14)), (2, .int v2)]) hx hb dX3_mixTried_45 hl (k := 4) rfl (by rfl) (by decide) rfl (fun ls hl => ?_)
        refine lv_goto (tgt := 15) hx hb dX3_mixTried_48 (by decide) ?_
        rw [hK15] at hq
        exact hq _ _ _ hP hD hS (lv_sub hl [2, 3, 4, 1, 0] rfl)
  have hq := hwp K2 K15 hk2 hk15
  refine lv_iconst (v := (0 : Int32)) hx hb dX3_mixTried_0 (by decide) ?_
  refine lv_istore_n (lv' := [(2, .int (0 : Int32)), (0, .ref (ad 20)), (1, .ref (ad 14))]) hx hb dX3_mixTried_1 rfl hl (by decide) rfl (fun ls hl => ?_)
  rw [hK2] at hq
  exact hq _ _ _ hP hD hS (lv_sub hl [1, 2, 0] rfl)
/-! ArcGuesser$Learner.findBest(ILArcGuesser$Candidates;)I -/
def X3_findBest_b12 (p1 : Int32) (K12 : Sto → Int32 → Int32 → Int32 → Prop) (Post : Int32 → Sto → Prop) (σ : Sto) (v3 : Int32) (v4 : Int32) (v5 : Int32) : Prop :=
  ((v4 ≤ v5 → (Post v3 σ)) ∧ (¬ v4 ≤ v5 → (X3_setTried_wp σ v5 p1 (fun σ1 => (X3_mixTried_wp σ1  (fun σ2 => (X1_halvesWon_wp σ2  (fun r3 σ3 => ((r3 ≤ v3 → (K12 σ3 v3 v4 (v5 + (1 : Int32)))) ∧ (¬ r3 ≤ v3 → ((¬ (σ3.1 20 0) < 0) ∧ (((σ3.1 20 0)).toNatClampNeg ≤ 3 ∧ (K12 (cpyS σ3 22 23 ((σ3.1 20 0)).toNatClampNeg) r3 v4 (v5 + (1 : Int32)))))))))))))))
def X3_findBest_wp (σ : Sto) (p1 : Int32) (Post : Int32 → Sto → Prop) : Prop := ∀ (K12 : Sto → Int32 → Int32 → Int32 → Prop), (∀ (σ : Sto) (v3 : Int32) (v4 : Int32) (v5 : Int32), X3_findBest_b12 p1 K12 Post σ v3 v4 v5 → K12 σ v3 v4 v5) → 
  (X3_trialTotal_wp σ p1 (fun r1 σ1 => (K12 σ1 (-1 : Int32) r1 (0 : Int32))))
set_option maxHeartbeats 4000000 in
set_option maxRecDepth 100000 in
theorem mtX3_findBest (l : Launch) (D : va_G) (ad : Nat → Nat) (cA : Nat → ClassId) (A : Nat → Prop) (σ : Sto) (p1 : Int32) (Post : Int32 → Sto → Prop) (hwp : X3_findBest_wp σ p1 Post) : Met l yX3_findBest wsX3_findBest ({ frames := 2, cells := 0, slots := 0, locals := 48 }) (va_Pc [.ref (ad 20), .int p1, .ref (ad 14)] (stW D (tyX cA) nwX (wX ad cA) A σ)) (va_Qi Post (enW D (wX ad cA) A) A) 0 0 A := by
  refine Met.ofW (cc := cX3_findBest) (maxL := 7) (ret := (some .int)) (by decide) rfl ?_
  intro p e s m args below meth c s₁ B hml hv
  obtain ⟨rfl, hA, hN, hP, hK, hD⟩ := hv
  have hx := B.exec
  have hb := B.bytes
  have hr := B.returns
  have hts := atoms_spec (ws := wsX3_findBest) B.pre
  have hown : s.vm.findClass RX3 = some m.cls := findClass_of_methodNamed B.named
  have hlocks := B.notSynchronized
  have hiX3 : ∀ w ∈ wsX30, w ∈ wsX3_findBest := by decide +kernel
  have hS : va_S A s.heap s.heap [] := va_S.rf
  have hl := lv_entry ([.ref (ad 20), .int p1, .ref (ad 14)]) (n := 7) (Nat.le_of_ble_eq_true rfl)
  rw [lg_entry_eq]
  generalize (lg_sl ([.ref (ad 20), .int p1, .ref (ad 14)]) ++ List.replicate (7 - (lg_sl ([.ref (ad 20), .int p1, .ref (ad 14)])).length) Slot.unset).toArray = ls at hl ⊢
  have hl : lv_has ls 7 [(0, .ref (ad 20)), (1, .int p1), (2, .ref (ad 14))] := hl
  obtain ⟨K12, hK12⟩ : ∃ K : Sto → Int32 → Int32 → Int32 → Prop, K = fun (σ : Sto) (v3 : Int32) (v4 : Int32) (v5 : Int32) => ∀ (H : Heap) (locs : List Loc) (ls : Array Slot), va_P D vwCl ((wX ad cA) σ) H → va_D A ((wX ad cA) σ) → va_S A s.heap H locs → lv_has ls 7 [(0, .ref (ad 20)), (1, .int p1), (2, .ref (ad 14)), (3, .int v3), (4, .int v4), (5, .int v5)] → W p l e (headSpec wsX3_findBest ({ frames := 2, cells := 0, slots := 0, locals := 48 })).room s m ([.ref (ad 20), .int p1, .ref (ad 14)] : List Value).toArray below meth c H locs 0 0 (MQ below (va_Qi Post (enW D (wX ad cA) A) A) ([.ref (ad 20), .int p1, .ref (ad 14)] : List Value).toArray s 0 0 A) (F0 m 12 ls []) := ⟨_, rfl⟩
  have hk12 : ∀ (σ : Sto) (v3 : Int32) (v4 : Int32) (v5 : Int32), X3_findBest_b12 p1 K12 Post σ v3 v4 v5 → K12 σ v3 v4 v5 := by
    intro σ v3 v4 v5 hq
    rw [hK12]
    intro H locs ls hP hD hS hl
    unfold X3_findBest_b12 at hq
    refine lv_iload hx hb dX3_findBest_12 (lv_at hl 5 rfl) ?_
    refine lv_iload hx hb dX3_findBest_14 (lv_at hl 4 rfl) ?_
    refine lv_icmp_ge (tgt := 69) hx hb dX3_findBest_16 (by decide) (fun hc => ?_) (fun hc => ?_)
    · have hq := hq.1 hc
      refine lv_iload_n hx hb dX3_findBest_69 rfl (lv_at hl 3 rfl) ?_
      exact W.iret (v := v3) hx hb hr (fun t ht hW => ⟨⟨v3, σ, rfl, hq, by rw [ht]; exact hP, hD⟩, hS.F ht⟩) hS.2.2 dX3_findBest_70
    · have hq := hq.2 hc
      refine lv_aload_n hx hb dX3_findBest_19 rfl (lv_at hl 0 rfl) ?_
      refine lv_iload hx hb dX3_findBest_20 (lv_at hl 5 rfl) ?_
      refine lv_iload_n hx hb dX3_findBest_22 rfl (lv_at hl 1 rfl) ?_
      refine w_callv (va_runV (As := [.int v5, .int p1]) (rest := []) ⟨hx, hb, hml, hown, hts⟩ (mtX3_setTried l D ad cA A σ v5 p1 _ hq) (cwV 2 hts gX3_findBest_X3_setTried rfl rfl rfl (by decide +kernel) ⟨Nat.le_of_ble_eq_true rfl, Nat.le_of_ble_eq_true rfl⟩) ⟨stW_blind nwX_ok, va_recv hK hP (ci := 3) (q0 := 20) rfl wXg20, stW_pass hA hS hN hK hP hD nwX_ok⟩ rfl rfl hl.1 rfl (lv_room (Nat.le_of_ble_eq_true rfl)) dX3_findBest_23 ⟨Nat.le_of_ble_eq_true rfl, Nat.le_of_ble_eq_true rfl⟩) hS (fun σ1 H locs hq hP hD hS => ?_)
      refine lv_aload_n hx hb dX3_findBest_26 rfl (lv_at hl 0 rfl) ?_
      refine lv_aload_n hx hb dX3_findBest_27 rfl (lv_at hl 2 rfl) ?_
      refine w_callv (va_runV (As := [.ref (ad 14)]) (rest := []) ⟨hx, hb, hml, hown, hts⟩ (mtX3_mixTried l D ad cA A σ1  _ hq) (cwV 1 hts gX3_findBest_X3_mixTried rfl rfl rfl (by decide +kernel) ⟨Nat.le_of_ble_eq_true rfl, Nat.le_of_ble_eq_true rfl⟩) ⟨stW_blind nwX_ok, va_recv hK hP (ci := 3) (q0 := 20) rfl wXg20, stW_pass hA hS hN hK hP hD nwX_ok⟩ rfl rfl hl.1 rfl (lv_room (Nat.le_of_ble_eq_true rfl)) dX3_findBest_28 ⟨Nat.le_of_ble_eq_true rfl, Nat.le_of_ble_eq_true rfl⟩) hS (fun σ2 H locs hq hP hD hS => ?_)
      refine lv_aload_n hx hb dX3_findBest_31 rfl (lv_at hl 2 rfl) ?_
      refine w_calli (va_runVN (As := []) (rest := []) ⟨hx, hb, hml, hown, hts⟩ (mtX1_halvesWon l D ad cA A σ2  _ hq) ⟨va_cnB 0 hts ggX3_findBest_X1_halvesWon rfl rfl rfl (hN (.methodLinkNest RX3 65 yX1_halvesWon "ArcGuesser") (List.mem_of_getElem? (i := 64) rfl)) (hts (.initialized RX1) (List.mem_of_getElem? (i := 27) rfl)) (by decide +kernel) ⟨Nat.le_of_ble_eq_true rfl, Nat.le_of_ble_eq_true rfl⟩, hts (.instanceMethod yX1_halvesWon) (List.mem_of_getElem? (i := 26) rfl), hts (.selects RX1 yX1_halvesWon yX1_halvesWon) (List.mem_of_getElem? (i := 28) rfl)⟩ ⟨stW_blind nwX_ok, va_recv hK hP (ci := 1) (q0 := 14) rfl wXg14, stW_pass hA hS hN hK hP hD nwX_ok⟩ rfl rfl hl.1 rfl (lv_room (Nat.le_of_ble_eq_true rfl)) dX3_findBest_32 ⟨Nat.le_of_ble_eq_true rfl, Nat.le_of_ble_eq_true rfl⟩) hS (fun r3 σ3 H locs hq hP hD hS => ?_)
      refine lv_istore (lv' := [(6, .int r3), (0, .ref (ad 20)), (1, .int p1), (2, .ref (ad 14)), (3, .int v3), (4, .int v4), (5, .int v5)]) hx hb dX3_findBest_35 hl (by decide) rfl (fun ls hl => ?_)
      refine lv_iload hx hb dX3_findBest_37 (lv_at hl 0 rfl) ?_
      refine lv_iload_n hx hb dX3_findBest_39 rfl (lv_at hl 4 rfl) ?_
      refine lv_icmp_le (tgt := 63) hx hb dX3_findBest_40 (by decide) (fun hc => ?_) (fun hc => ?_)
      · have hq := hq.1 hc
        refine lv_iinc (v := (v5 + (1 : Int32))) (lv' := [(5, .int (v5 + (1 : Int32))), (6, .int r3), (0, .ref (ad 20)), (1, .int p1), (2, .ref (ad 14)), (3, .int v3), (4, .int v4)]) hx hb dX3_findBest_63 hl (k := 6) rfl (by rfl) (by decide) rfl (fun ls hl => ?_)
        refine lv_goto (tgt := 12) hx hb dX3_findBest_66 (by decide) ?_
        rw [hK12] at hq
        exact hq _ _ _ hP hD hS (lv_sub hl [2, 3, 4, 5, 6, 0] rfl)
      · have hq := hq.2 hc
        refine lv_iload hx hb dX3_findBest_43 (lv_at hl 0 rfl) ?_
        refine lv_istore_n (lv' := [(3, .int r3), (6, .int r3), (0, .ref (ad 20)), (1, .int p1), (2, .ref (ad 14)), (4, .int v4), (5, .int v5)]) hx hb dX3_findBest_45 rfl hl (by decide) rfl (fun ls hl => ?_)
        refine lv_aload_n hx hb dX3_findBest_46 rfl (lv_at hl 2 rfl) ?_
        refine va_get (D := D) (ci := 3) (v := .ref (ad 22)) (C := RX3) (T := TX3) (N := 5) hx hb hts hiX3 hown hK hP 20 wXg20 rfl 2 (by decide) (hts (.fieldLink RX3 15 "ArcGuesser$Learner" "tried" "[I") (List.mem_of_getElem? (i := 1) rfl)) (fun _ h9 => h9) rfl dX3_findBest_47 ?_
        refine lv_iconst (v := (0 : Int32)) hx hb dX3_findBest_50 (by decide) ?_
        refine lv_aload_n hx hb dX3_findBest_51 rfl (lv_at hl 2 rfl) ?_
        refine va_get (D := D) (ci := 3) (v := .ref (ad 23)) (C := RX3) (T := TX3) (N := 5) hx hb hts hiX3 hown hK hP 20 wXg20 rfl 3 (by decide) (hts (.fieldLink RX3 18 "ArcGuesser$Learner" "best" "[I") (List.mem_of_getElem? (i := 2) rfl)) (fun _ h9 => h9) rfl dX3_findBest_52 ?_
        refine lv_iconst (v := (0 : Int32)) hx hb dX3_findBest_55 (by decide) ?_
        refine lv_aload_n hx hb dX3_findBest_56 rfl (lv_at hl 2 rfl) ?_
        refine va_get (D := D) (ci := 3) (v := .int (σ3.1 20 0)) (C := RX3) (T := TX3) (N := 5) hx hb hts hiX3 hown hK hP 20 wXg20 rfl 0 (by decide) (hts (.fieldLink RX3 36 "ArcGuesser$Learner" "chosenTotal" "I") (List.mem_of_getElem? (i := 3) rfl)) (fun _ h9 => h9) rfl dX3_findBest_57 ?_
        refine va_copyi hx hb (by rw [hml]; exact hl.1.symm) hown (hts (.methodLink RX3 69 arraycopyName) (List.mem_of_getElem? (i := 4) rfl)) (hts (.native arraycopyName) (List.mem_of_getElem? (i := 5) rfl)) (hts (.static arraycopyName) (List.mem_of_getElem? (i := 6) rfl)) (hts (.initialized "java/lang/System") (List.mem_of_getElem? (i := 7) rfl)) hK hP hD hS 22 23 0 0 wXg22 wXg23 rfl rfl rfl (by decide) (by decide) hq.1 (by rw [int0, Nat.zero_add]; exact hq.2.1) (by rw [int0, Nat.zero_add]; exact hq.2.1) (fun _ _ => rfl) (Nat.le_of_ble_eq_true rfl) (Nat.le_of_ble_eq_true rfl) dX3_findBest_60 (fun H locs hP hD hS => ?_)
        have hP := wXcP hP
        have hD := wXcD hD
        have hq := hq.2.2
        refine lv_iinc (v := (v5 + (1 : Int32))) (lv' := [(5, .int (v5 + (1 : Int32))), (3, .int r3), (6, .int r3), (0, .ref (ad 20)), (1, .int p1), (2, .ref (ad 14)), (4, .int v4)]) hx hb dX3_findBest_63 hl (k := 6) rfl (by rfl) (by decide) rfl (fun ls hl => ?_)
        refine lv_goto (tgt := 12) hx hb dX3_findBest_66 (by decide) ?_
        rw [hK12] at hq
        exact hq _ _ _ hP hD hS (lv_sub hl [3, 4, 5, 1, 6, 0] rfl)
  have hq := hwp K12 hk12
  refine lv_iconst (v := (-1 : Int32)) hx hb dX3_findBest_0 (by decide) ?_
  refine lv_istore_n (lv' := [(3, .int (-1 : Int32)), (0, .ref (ad 20)), (1, .int p1), (2, .ref (ad 14))]) hx hb dX3_findBest_1 rfl hl (by decide) rfl (fun ls hl => ?_)
  refine lv_aload_n hx hb dX3_findBest_2 rfl (lv_at hl 1 rfl) ?_
  refine lv_iload_n hx hb dX3_findBest_3 rfl (lv_at hl 2 rfl) ?_
  refine w_calli (va_runV (As := [.int p1]) (rest := []) ⟨hx, hb, hml, hown, hts⟩ (mtX3_trialTotal l D ad cA A σ p1 _ hq) (cwV 1 hts gX3_findBest_X3_trialTotal rfl rfl rfl (by decide +kernel) ⟨Nat.le_of_ble_eq_true rfl, Nat.le_of_ble_eq_true rfl⟩) ⟨stW_blind nwX_ok, va_recv hK hP (ci := 3) (q0 := 20) rfl wXg20, stW_pass hA hS hN hK hP hD nwX_ok⟩ rfl rfl hl.1 rfl (lv_room (Nat.le_of_ble_eq_true rfl)) dX3_findBest_4 ⟨Nat.le_of_ble_eq_true rfl, Nat.le_of_ble_eq_true rfl⟩) hS (fun r1 σ1 H locs hq hP hD hS => ?_)
  refine lv_istore (lv' := [(4, .int r1), (3, .int (-1 : Int32)), (0, .ref (ad 20)), (1, .int p1), (2, .ref (ad 14))]) hx hb dX3_findBest_7 hl (by decide) rfl (fun ls hl => ?_)
  refine lv_iconst (v := (0 : Int32)) hx hb dX3_findBest_9 (by decide) ?_
  refine lv_istore (lv' := [(5, .int (0 : Int32)), (4, .int r1), (3, .int (-1 : Int32)), (0, .ref (ad 20)), (1, .int p1), (2, .ref (ad 14))]) hx hb dX3_findBest_10 hl (by decide) rfl (fun ls hl => ?_)
  rw [hK12] at hq
  exact hq _ _ _ hP hD hS (lv_sub hl [3, 4, 5, 2, 1, 0] rfl)
/-! ArcGuesser$Learner.handOver([I)V -/
def X3_handOver_b7  (K7 : Sto → Int32 → Prop) (Post : Sto → Prop) (σ : Sto) (v2 : Int32) : Prop :=
  (((σ.1 20 0) ≤ v2 → (Post σ)) ∧ (¬ (σ.1 20 0) ≤ v2 → (vp_in v2 3 ∧ (vp_in v2 3 ∧ (vp_in (σ.1 21 (v2).toNatClampNeg) 11 ∧ (K7 (sI σ 13 ((σ.1 21 (v2).toNatClampNeg)).toNatClampNeg (σ.1 23 (v2).toNatClampNeg)) (v2 + (1 : Int32))))))))
def X3_handOver_wp (σ : Sto)  (Post : Sto → Prop) : Prop := ∀ (K7 : Sto → Int32 → Prop), (∀ (σ : Sto) (v2 : Int32), X3_handOver_b7  K7 Post σ v2 → K7 σ v2) → 
  (fill_wp σ 13 11 (0 : Int32) (fun σ1 => (K7 σ1 (0 : Int32))))
set_option maxHeartbeats 4000000 in
set_option maxRecDepth 100000 in
theorem mtX3_handOver (l : Launch) (D : va_G) (ad : Nat → Nat) (cA : Nat → ClassId) (A : Nat → Prop) (σ : Sto)  (Post : Sto → Prop) (hwp : X3_handOver_wp σ  Post) : Met l yX3_handOver wsX3_handOver ({ frames := 1, cells := 0, slots := 0, locals := 23 }) (va_Pc [.ref (ad 20), .ref (ad 13)] (stW D (tyX cA) nwX (wX ad cA) A σ)) (va_Qv Post (enW D (wX ad cA) A) A) 0 0 A := by
  refine Met.ofW (cc := cX3_handOver) (maxL := 3) (ret := none) (by decide) rfl ?_
  intro p e s m args below meth c s₁ B hml hv
  obtain ⟨rfl, hA, hN, hP, hK, hD⟩ := hv
  have hx := B.exec
  have hb := B.bytes
  have hr := B.returns
  have hts := atoms_spec (ws := wsX3_handOver) B.pre
  have hown : s.vm.findClass RX3 = some m.cls := findClass_of_methodNamed B.named
  have hlocks := B.notSynchronized
  have hiX3 : ∀ w ∈ wsX30, w ∈ wsX3_handOver := by decide +kernel
  have hS : va_S A s.heap s.heap [] := va_S.rf
  have hl := lv_entry ([.ref (ad 20), .ref (ad 13)]) (n := 3) (Nat.le_of_ble_eq_true rfl)
  rw [lg_entry_eq]
  generalize (lg_sl ([.ref (ad 20), .ref (ad 13)]) ++ List.replicate (3 - (lg_sl ([.ref (ad 20), .ref (ad 13)])).length) Slot.unset).toArray = ls at hl ⊢
  have hl : lv_has ls 3 [(0, .ref (ad 20)), (1, .ref (ad 13))] := hl
  obtain ⟨K7, hK7⟩ : ∃ K : Sto → Int32 → Prop, K = fun (σ : Sto) (v2 : Int32) => ∀ (H : Heap) (locs : List Loc) (ls : Array Slot), va_P D vwCl ((wX ad cA) σ) H → va_D A ((wX ad cA) σ) → va_S A s.heap H locs → lv_has ls 3 [(0, .ref (ad 20)), (1, .ref (ad 13)), (2, .int v2)] → W p l e (headSpec wsX3_handOver ({ frames := 1, cells := 0, slots := 0, locals := 23 })).room s m ([.ref (ad 20), .ref (ad 13)] : List Value).toArray below meth c H locs 0 0 (MQ below (va_Qv Post (enW D (wX ad cA) A) A) ([.ref (ad 20), .ref (ad 13)] : List Value).toArray s 0 0 A) (F0 m 7 ls []) := ⟨_, rfl⟩
  have hk7 : ∀ (σ : Sto) (v2 : Int32), X3_handOver_b7  K7 Post σ v2 → K7 σ v2 := by
    intro σ v2 hq
    rw [hK7]
    intro H locs ls hP hD hS hl
    unfold X3_handOver_b7 at hq
    refine lv_iload_n hx hb dX3_handOver_7 rfl (lv_at hl 2 rfl) ?_
    refine lv_aload_n hx hb dX3_handOver_8 rfl (lv_at hl 0 rfl) ?_
    refine va_get (D := D) (ci := 3) (v := .int (σ.1 20 0)) (C := RX3) (T := TX3) (N := 5) hx hb hts hiX3 hown hK hP 20 wXg20 rfl 0 (by decide) (hts (.fieldLink RX3 36 "ArcGuesser$Learner" "chosenTotal" "I") (List.mem_of_getElem? (i := 1) rfl)) (fun _ h9 => h9) rfl dX3_handOver_9 ?_
    refine lv_icmp_ge (tgt := 35) hx hb dX3_handOver_12 (by decide) (fun hc => ?_) (fun hc => ?_)
    · have hq := hq.1 hc
      exact W.vret hx hb hr (fun t ht hW => ⟨⟨σ, rfl, hq, by rw [ht]; exact hP, hD⟩, hS.F ht⟩) hS.2.2 dX3_handOver_35
    · have hq := hq.2 hc
      refine lv_aload_n hx hb dX3_handOver_15 rfl (lv_at hl 1 rfl) ?_
      refine lv_aload_n hx hb dX3_handOver_16 rfl (lv_at hl 0 rfl) ?_
      refine va_get (D := D) (ci := 3) (v := .ref (ad 21)) (C := RX3) (T := TX3) (N := 5) hx hb hts hiX3 hown hK hP 20 wXg20 rfl 1 (by decide) (hts (.fieldLink RX3 9 "ArcGuesser$Learner" "chosen" "[I") (List.mem_of_getElem? (i := 2) rfl)) (fun _ h9 => h9) rfl dX3_handOver_17 ?_
      refine lv_iload_n hx hb dX3_handOver_20 rfl (lv_at hl 2 rfl) ?_
      refine va_iald hx hb hK hP 21 0 wXg21 rfl hq.1 dX3_handOver_21 ?_
      have hq := hq.2
      refine lv_aload_n hx hb dX3_handOver_22 rfl (lv_at hl 0 rfl) ?_
      refine va_get (D := D) (ci := 3) (v := .ref (ad 23)) (C := RX3) (T := TX3) (N := 5) hx hb hts hiX3 hown hK hP 20 wXg20 rfl 3 (by decide) (hts (.fieldLink RX3 18 "ArcGuesser$Learner" "best" "[I") (List.mem_of_getElem? (i := 3) rfl)) (fun _ h9 => h9) rfl dX3_handOver_23 ?_
      refine lv_iload_n hx hb dX3_handOver_26 rfl (lv_at hl 2 rfl) ?_
      refine va_iald hx hb hK hP 23 0 wXg23 rfl hq.1 dX3_handOver_27 ?_
      have hq := hq.2
      refine va_iast hx hb hK hP hD hS 13 0 wXg13 rfl hq.1 dX3_handOver_28 (fun H locs hP hD hS => ?_)
      have hP := wXsP13 hP
      have hD := wXsD13 hD
      have hq := hq.2
      refine lv_iinc (v := (v2 + (1 : Int32))) (lv' := [(2, .int (v2 + (1 : Int32))), (0, .ref (ad 20)), (1, .ref (ad 13))]) hx hb dX3_handOver_29 hl (k := 2) rfl (by rfl) (by decide) rfl (fun ls hl => ?_)
      refine lv_goto (tgt := 7) hx hb dX3_handOver_32 (by decide) ?_
      rw [hK7] at hq
      exact hq _ _ _ hP hD hS (lv_sub hl [1, 2, 0] rfl)
  have hq := hwp K7 hk7
  refine lv_aload_n hx hb dX3_handOver_0 rfl (lv_at hl 1 rfl) ?_
  refine lv_iconst (v := (0 : Int32)) hx hb dX3_handOver_1 (by decide) ?_
  refine w_callv (va_runS (As := [.ref (ad 13), .int (0 : Int32)]) (rest := []) ⟨hx, hb, hml, hown, hts⟩ (cJ7_fill l D (wX ad cA) ad cA (tyX cA) (nwX) A 13 11 rfl (fun _ => rfl) (fun _ _ _ => rfl) (by decide) σ (0 : Int32) _ hq) (va_cwS 2 hts gX3_handOver_J7_fill_53178 rfl rfl rfl (by decide +kernel) ⟨Nat.le_of_ble_eq_true rfl, Nat.le_of_ble_eq_true rfl⟩) ⟨stW_blind nwX_ok, stW_pass hA hS hN hK hP hD nwX_ok⟩ rfl rfl hl.1 rfl (lv_room (Nat.le_of_ble_eq_true rfl)) dX3_handOver_2 ⟨Nat.le_of_ble_eq_true rfl, Nat.le_of_ble_eq_true rfl⟩) hS (fun σ1 H locs hq hP hD hS => ?_)
  refine lv_iconst (v := (0 : Int32)) hx hb dX3_handOver_5 (by decide) ?_
  refine lv_istore_n (lv' := [(2, .int (0 : Int32)), (0, .ref (ad 20)), (1, .ref (ad 13))]) hx hb dX3_handOver_6 rfl hl (by decide) rfl (fun ls hl => ?_)
  rw [hK7] at hq
  exact hq _ _ _ hP hD hS (lv_sub hl [1, 2, 0] rfl)
/-! ArcGuesser$Learner.measureAll(LArcGuesser$Measures;LArcGuesser$Candidates;)V -/
def X3_measureAll_b2  (K2 : Sto → Int32 → Prop) (K13 : Sto → Int32 → Int32 → Prop) (Post : Sto → Prop) (σ : Sto) (v3 : Int32) : Prop :=
  (((σ.1 20 0) ≤ v3 → (Post σ)) ∧ (¬ (σ.1 20 0) ≤ v3 → (K13 σ v3 (0 : Int32))))
def X3_measureAll_b13  (K2 : Sto → Int32 → Prop) (K13 : Sto → Int32 → Int32 → Prop) (Post : Sto → Prop) (σ : Sto) (v3 : Int32) (v4 : Int32) : Prop :=
  (((σ.1 14 1) ≤ v4 → (K2 σ (v3 + (1 : Int32)))) ∧ (¬ (σ.1 14 1) ≤ v4 → (vp_in v3 3 ∧ (((v3).toNatClampNeg = 0 → (vp_in v3 3 ∧ (vp_in v4 132 ∧ (X4_partsOf_wp σ (σ.1 21 (v3).toNatClampNeg) (σ.1 15 (v4).toNatClampNeg) (fun r1 σ1 => (vp_in v4 132 ∧ (K13 (sJ σ1 25 (v4).toNatClampNeg r1) v3 (v4 + (1 : Int32))))))))) ∧ ((v3).toNatClampNeg = 1 → (vp_in v3 3 ∧ (vp_in v4 132 ∧ (X4_partsOf_wp σ (σ.1 21 (v3).toNatClampNeg) (σ.1 15 (v4).toNatClampNeg) (fun r2 σ2 => (vp_in v4 132 ∧ (K13 (sJ σ2 26 (v4).toNatClampNeg r2) v3 (v4 + (1 : Int32))))))))) ∧ ((v3).toNatClampNeg = 2 → (vp_in v3 3 ∧ (vp_in v4 132 ∧ (X4_partsOf_wp σ (σ.1 21 (v3).toNatClampNeg) (σ.1 15 (v4).toNatClampNeg) (fun r3 σ3 => (vp_in v4 132 ∧ (K13 (sJ σ3 27 (v4).toNatClampNeg r3) v3 (v4 + (1 : Int32)))))))))))))
def X3_measureAll_wp (σ : Sto)  (Post : Sto → Prop) : Prop := ∀ (K2 : Sto → Int32 → Prop) (K13 : Sto → Int32 → Int32 → Prop), (∀ (σ : Sto) (v3 : Int32), X3_measureAll_b2  K2 K13 Post σ v3 → K2 σ v3) → (∀ (σ : Sto) (v3 : Int32) (v4 : Int32), X3_measureAll_b13  K2 K13 Post σ v3 v4 → K13 σ v3 v4) → 
  (K2 σ (0 : Int32))
set_option maxHeartbeats 4000000 in
set_option maxRecDepth 100000 in
theorem mtX3_measureAll (l : Launch) (D : va_G) (ad : Nat → Nat) (cA : Nat → ClassId) (A : Nat → Prop) (σ : Sto)  (Post : Sto → Prop) (hwp : X3_measureAll_wp σ  Post) : Met l yX3_measureAll wsX3_measureAll ({ frames := 4, cells := 0, slots := 0, locals := 92 }) (va_Pc [.ref (ad 20), .ref (ad 11), .ref (ad 14)] (stW D (tyX cA) nwX (wX ad cA) A σ)) (va_Qv Post (enW D (wX ad cA) A) A) 0 0 A := by
  refine Met.ofW (cc := cX3_measureAll) (maxL := 5) (ret := none) (by decide) rfl ?_
  intro p e s m args below meth c s₁ B hml hv
  obtain ⟨rfl, hA, hN, hP, hK, hD⟩ := hv
  have hx := B.exec
  have hb := B.bytes
  have hr := B.returns
  have hts := atoms_spec (ws := wsX3_measureAll) B.pre
  have hown : s.vm.findClass RX3 = some m.cls := findClass_of_methodNamed B.named
  have hlocks := B.notSynchronized
  have hiX1 : ∀ w ∈ wsX10, w ∈ wsX3_measureAll := by decide +kernel
  have hiX3 : ∀ w ∈ wsX30, w ∈ wsX3_measureAll := by decide +kernel
  have hS : va_S A s.heap s.heap [] := va_S.rf
  have hl := lv_entry ([.ref (ad 20), .ref (ad 11), .ref (ad 14)]) (n := 5) (Nat.le_of_ble_eq_true rfl)
  rw [lg_entry_eq]
  generalize (lg_sl ([.ref (ad 20), .ref (ad 11), .ref (ad 14)]) ++ List.replicate (5 - (lg_sl ([.ref (ad 20), .ref (ad 11), .ref (ad 14)])).length) Slot.unset).toArray = ls at hl ⊢
  have hl : lv_has ls 5 [(0, .ref (ad 20)), (1, .ref (ad 11)), (2, .ref (ad 14))] := hl
  obtain ⟨K2, hK2⟩ : ∃ K : Sto → Int32 → Prop, K = fun (σ : Sto) (v3 : Int32) => ∀ (H : Heap) (locs : List Loc) (ls : Array Slot), va_P D vwCl ((wX ad cA) σ) H → va_D A ((wX ad cA) σ) → va_S A s.heap H locs → lv_has ls 5 [(0, .ref (ad 20)), (1, .ref (ad 11)), (2, .ref (ad 14)), (3, .int v3)] → W p l e (headSpec wsX3_measureAll ({ frames := 4, cells := 0, slots := 0, locals := 92 })).room s m ([.ref (ad 20), .ref (ad 11), .ref (ad 14)] : List Value).toArray below meth c H locs 0 0 (MQ below (va_Qv Post (enW D (wX ad cA) A) A) ([.ref (ad 20), .ref (ad 11), .ref (ad 14)] : List Value).toArray s 0 0 A) (F0 m 2 ls []) := ⟨_, rfl⟩
  obtain ⟨K13, hK13⟩ : ∃ K : Sto → Int32 → Int32 → Prop, K = fun (σ : Sto) (v3 : Int32) (v4 : Int32) => ∀ (H : Heap) (locs : List Loc) (ls : Array Slot), va_P D vwCl ((wX ad cA) σ) H → va_D A ((wX ad cA) σ) → va_S A s.heap H locs → lv_has ls 5 [(0, .ref (ad 20)), (1, .ref (ad 11)), (2, .ref (ad 14)), (3, .int v3), (4, .int v4)] → W p l e (headSpec wsX3_measureAll ({ frames := 4, cells := 0, slots := 0, locals := 92 })).room s m ([.ref (ad 20), .ref (ad 11), .ref (ad 14)] : List Value).toArray below meth c H locs 0 0 (MQ below (va_Qv Post (enW D (wX ad cA) A) A) ([.ref (ad 20), .ref (ad 11), .ref (ad 14)] : List Value).toArray s 0 0 A) (F0 m 13 ls []) := ⟨_, rfl⟩
  have hk2 : ∀ (σ : Sto) (v3 : Int32), X3_measureAll_b2  K2 K13 Post σ v3 → K2 σ v3 := by
    intro σ v3 hq
    rw [hK2]
    intro H locs ls hP hD hS hl
    unfold X3_measureAll_b2 at hq
    refine lv_iload_n hx hb dX3_measureAll_2 rfl (lv_at hl 3 rfl) ?_
    refine lv_aload_n hx hb dX3_measureAll_3 rfl (lv_at hl 0 rfl) ?_
    refine va_get (D := D) (ci := 3) (v := .int (σ.1 20 0)) (C := RX3) (T := TX3) (N := 5) hx hb hts hiX3 hown hK hP 20 wXg20 rfl 0 (by decide) (hts (.fieldLink RX3 36 "ArcGuesser$Learner" "chosenTotal" "I") (List.mem_of_getElem? (i := 1) rfl)) (fun _ h9 => h9) rfl dX3_measureAll_4 ?_
    refine lv_icmp_ge (tgt := 60) hx hb dX3_measureAll_7 (by decide) (fun hc => ?_) (fun hc => ?_)
    · have hq := hq.1 hc
      exact W.vret hx hb hr (fun t ht hW => ⟨⟨σ, rfl, hq, by rw [ht]; exact hP, hD⟩, hS.F ht⟩) hS.2.2 dX3_measureAll_60
    · have hq := hq.2 hc
      refine lv_iconst (v := (0 : Int32)) hx hb dX3_measureAll_10 (by decide) ?_
      refine lv_istore (lv' := [(4, .int (0 : Int32)), (0, .ref (ad 20)), (1, .ref (ad 11)), (2, .ref (ad 14)), (3, .int v3)]) hx hb dX3_measureAll_11 hl (by decide) rfl (fun ls hl => ?_)
      rw [hK13] at hq
      exact hq _ _ _ hP hD hS (lv_sub hl [1, 2, 3, 4, 0] rfl)
  have hk13 : ∀ (σ : Sto) (v3 : Int32) (v4 : Int32), X3_measureAll_b13  K2 K13 Post σ v3 v4 → K13 σ v3 v4 := by
    intro σ v3 v4 hq
    rw [hK13]
    intro H locs ls hP hD hS hl
    unfold X3_measureAll_b13 at hq
    refine lv_iload hx hb dX3_measureAll_13 (lv_at hl 4 rfl) ?_
    refine lv_aload_n hx hb dX3_measureAll_15 rfl (lv_at hl 2 rfl) ?_
    refine va_getN (D := D) (ci := 1) (v := .int (σ.1 14 1)) (C := RX1) (T := TX1) (N := 9) hx hb hts hiX1 hown hK hP 14 wXg14 rfl 1 (by decide) (va_Nw.use rfl (hN (.fieldLinkNest RX3 40 "ArcGuesser$Candidates" "total" "I" "ArcGuesser") (List.mem_of_getElem? (i := 15) rfl))) (fun _ h9 => h9) rfl dX3_measureAll_16 ?_
    refine lv_icmp_ge (tgt := 54) hx hb dX3_measureAll_19 (by decide) (fun hc => ?_) (fun hc => ?_)
    · have hq := hq.1 hc
      refine lv_iinc (v := (v3 + (1 : Int32))) (lv' := [(3, .int (v3 + (1 : Int32))), (0, .ref (ad 20)), (1, .ref (ad 11)), (2, .ref (ad 14)), (4, .int v4)]) hx hb dX3_measureAll_54 hl (k := 3) rfl (by rfl) (by decide) rfl (fun ls hl => ?_)
      refine lv_goto (tgt := 2) hx hb dX3_measureAll_57 (by decide) ?_
      rw [hK2] at hq
      exact hq _ _ _ hP hD hS (lv_sub hl [1, 2, 3, 0] rfl)
    · have hq := hq.2 hc
      refine lv_aload_n hx hb dX3_measureAll_22 rfl (lv_at hl 0 rfl) ?_
      refine va_get (D := D) (ci := 3) (v := .ref (ad 24)) (C := RX3) (T := TX3) (N := 5) hx hb hts hiX3 hown hK hP 20 wXg20 rfl 4 (by decide) (hts (.fieldLink RX3 23 "ArcGuesser$Learner" "parts" "[[J") (List.mem_of_getElem? (i := 2) rfl)) (fun _ h9 => h9) rfl dX3_measureAll_23 ?_
      refine lv_iload_n hx hb dX3_measureAll_26 rfl (lv_at hl 3 rfl) ?_
      have h3 := hq.1
      have hq := hq.2
      rcases in3 h3 with hc | hc | hc
      · have hq := hq.1 hc
        refine va_aldM hx hb hK hP 24 2 wXg24 rfl h3 0 hc rfl dX3_measureAll_27 ?_
        refine lv_iload hx hb dX3_measureAll_28 (lv_at hl 4 rfl) ?_
        refine lv_aload_n hx hb dX3_measureAll_30 rfl (lv_at hl 1 rfl) ?_
        refine lv_aload_n hx hb dX3_measureAll_31 rfl (lv_at hl 0 rfl) ?_
        refine va_get (D := D) (ci := 3) (v := .ref (ad 21)) (C := RX3) (T := TX3) (N := 5) hx hb hts hiX3 hown hK hP 20 wXg20 rfl 1 (by decide) (hts (.fieldLink RX3 9 "ArcGuesser$Learner" "chosen" "[I") (List.mem_of_getElem? (i := 3) rfl)) (fun _ h9 => h9) rfl dX3_measureAll_32 ?_
        refine lv_iload_n hx hb dX3_measureAll_35 rfl (lv_at hl 3 rfl) ?_
        refine va_iald hx hb hK hP 21 0 wXg21 rfl hq.1 dX3_measureAll_36 ?_
        have hq := hq.2
        refine lv_aload_n hx hb dX3_measureAll_37 rfl (lv_at hl 2 rfl) ?_
        refine va_getN (D := D) (ci := 1) (v := .ref (ad 15)) (C := RX1) (T := TX1) (N := 9) hx hb hts hiX1 hown hK hP 14 wXg14 rfl 4 (by decide) (va_Nw.use rfl (hN (.fieldLinkNest RX3 45 "ArcGuesser$Candidates" "pairs" "[I" "ArcGuesser") (List.mem_of_getElem? (i := 16) rfl))) (fun _ h9 => h9) rfl dX3_measureAll_38 ?_
        refine lv_iload hx hb dX3_measureAll_41 (lv_at hl 4 rfl) ?_
        refine va_iald hx hb hK hP 15 0 wXg15 rfl hq.1 dX3_measureAll_43 ?_
        have hq := hq.2
        refine w_calll (va_runVN (As := [.int (σ.1 21 (v3).toNatClampNeg), .int (σ.1 15 (v4).toNatClampNeg)]) (rest := [.int v4, .ref (ad 25)]) ⟨hx, hb, hml, hown, hts⟩ (mtX4_partsOf l D ad cA A σ (σ.1 21 (v3).toNatClampNeg) (σ.1 15 (v4).toNatClampNeg) _ hq) ⟨va_cnB 2 hts ggX3_measureAll_X4_partsOf rfl rfl rfl (hN (.methodLinkNest RX3 48 yX4_partsOf "ArcGuesser") (List.mem_of_getElem? (i := 63) rfl)) (hts (.initialized RX4) (List.mem_of_getElem? (i := 5) rfl)) (by decide +kernel) ⟨Nat.le_of_ble_eq_true rfl, Nat.le_of_ble_eq_true rfl⟩, hts (.instanceMethod yX4_partsOf) (List.mem_of_getElem? (i := 4) rfl), hts (.selects RX4 yX4_partsOf yX4_partsOf) (List.mem_of_getElem? (i := 6) rfl)⟩ ⟨stW_blind nwX_ok, va_recv hK hP (ci := 4) (q0 := 11) rfl wXg11, stW_pass hA hS hN hK hP hD nwX_ok⟩ rfl rfl hl.1 rfl (lv_room (Nat.le_of_ble_eq_true rfl)) dX3_measureAll_44 ⟨Nat.le_of_ble_eq_true rfl, Nat.le_of_ble_eq_true rfl⟩) hS (fun r1 σ1 H locs hq hP hD hS => ?_)
        refine va_last hx hb hK hP hD hS 25 1 wXg25 rfl hq.1 dX3_measureAll_47 (fun H locs hP hD hS => ?_)
        have hP := wXsP25 hP
        have hD := wXsD25 hD
        have hq := hq.2
        refine lv_iinc (v := (v4 + (1 : Int32))) (lv' := [(4, .int (v4 + (1 : Int32))), (0, .ref (ad 20)), (1, .ref (ad 11)), (2, .ref (ad 14)), (3, .int v3)]) hx hb dX3_measureAll_48 hl (k := 4) rfl (by rfl) (by decide) rfl (fun ls hl => ?_)
        refine lv_goto (tgt := 13) hx hb dX3_measureAll_51 (by decide) ?_
        rw [hK13] at hq
        exact hq _ _ _ hP hD hS (lv_sub hl [1, 2, 3, 4, 0] rfl)
      · have hq := hq.2.1 hc
        refine va_aldM hx hb hK hP 24 2 wXg24 rfl h3 1 hc rfl dX3_measureAll_27 ?_
        refine lv_iload hx hb dX3_measureAll_28 (lv_at hl 4 rfl) ?_
        refine lv_aload_n hx hb dX3_measureAll_30 rfl (lv_at hl 1 rfl) ?_
        refine lv_aload_n hx hb dX3_measureAll_31 rfl (lv_at hl 0 rfl) ?_
        refine va_get (D := D) (ci := 3) (v := .ref (ad 21)) (C := RX3) (T := TX3) (N := 5) hx hb hts hiX3 hown hK hP 20 wXg20 rfl 1 (by decide) (hts (.fieldLink RX3 9 "ArcGuesser$Learner" "chosen" "[I") (List.mem_of_getElem? (i := 3) rfl)) (fun _ h9 => h9) rfl dX3_measureAll_32 ?_
        refine lv_iload_n hx hb dX3_measureAll_35 rfl (lv_at hl 3 rfl) ?_
        refine va_iald hx hb hK hP 21 0 wXg21 rfl hq.1 dX3_measureAll_36 ?_
        have hq := hq.2
        refine lv_aload_n hx hb dX3_measureAll_37 rfl (lv_at hl 2 rfl) ?_
        refine va_getN (D := D) (ci := 1) (v := .ref (ad 15)) (C := RX1) (T := TX1) (N := 9) hx hb hts hiX1 hown hK hP 14 wXg14 rfl 4 (by decide) (va_Nw.use rfl (hN (.fieldLinkNest RX3 45 "ArcGuesser$Candidates" "pairs" "[I" "ArcGuesser") (List.mem_of_getElem? (i := 16) rfl))) (fun _ h9 => h9) rfl dX3_measureAll_38 ?_
        refine lv_iload hx hb dX3_measureAll_41 (lv_at hl 4 rfl) ?_
        refine va_iald hx hb hK hP 15 0 wXg15 rfl hq.1 dX3_measureAll_43 ?_
        have hq := hq.2
        refine w_calll (va_runVN (As := [.int (σ.1 21 (v3).toNatClampNeg), .int (σ.1 15 (v4).toNatClampNeg)]) (rest := [.int v4, .ref (ad 26)]) ⟨hx, hb, hml, hown, hts⟩ (mtX4_partsOf l D ad cA A σ (σ.1 21 (v3).toNatClampNeg) (σ.1 15 (v4).toNatClampNeg) _ hq) ⟨va_cnB 2 hts ggX3_measureAll_X4_partsOf rfl rfl rfl (hN (.methodLinkNest RX3 48 yX4_partsOf "ArcGuesser") (List.mem_of_getElem? (i := 63) rfl)) (hts (.initialized RX4) (List.mem_of_getElem? (i := 5) rfl)) (by decide +kernel) ⟨Nat.le_of_ble_eq_true rfl, Nat.le_of_ble_eq_true rfl⟩, hts (.instanceMethod yX4_partsOf) (List.mem_of_getElem? (i := 4) rfl), hts (.selects RX4 yX4_partsOf yX4_partsOf) (List.mem_of_getElem? (i := 6) rfl)⟩ ⟨stW_blind nwX_ok, va_recv hK hP (ci := 4) (q0 := 11) rfl wXg11, stW_pass hA hS hN hK hP hD nwX_ok⟩ rfl rfl hl.1 rfl (lv_room (Nat.le_of_ble_eq_true rfl)) dX3_measureAll_44 ⟨Nat.le_of_ble_eq_true rfl, Nat.le_of_ble_eq_true rfl⟩) hS (fun r2 σ2 H locs hq hP hD hS => ?_)
        refine va_last hx hb hK hP hD hS 26 1 wXg26 rfl hq.1 dX3_measureAll_47 (fun H locs hP hD hS => ?_)
        have hP := wXsP26 hP
        have hD := wXsD26 hD
        have hq := hq.2
        refine lv_iinc (v := (v4 + (1 : Int32))) (lv' := [(4, .int (v4 + (1 : Int32))), (0, .ref (ad 20)), (1, .ref (ad 11)), (2, .ref (ad 14)), (3, .int v3)]) hx hb dX3_measureAll_48 hl (k := 4) rfl (by rfl) (by decide) rfl (fun ls hl => ?_)
        refine lv_goto (tgt := 13) hx hb dX3_measureAll_51 (by decide) ?_
        rw [hK13] at hq
        exact hq _ _ _ hP hD hS (lv_sub hl [1, 2, 3, 4, 0] rfl)
      · have hq := hq.2.2 hc
        refine va_aldM hx hb hK hP 24 2 wXg24 rfl h3 2 hc rfl dX3_measureAll_27 ?_
        refine lv_iload hx hb dX3_measureAll_28 (lv_at hl 4 rfl) ?_
        refine lv_aload_n hx hb dX3_measureAll_30 rfl (lv_at hl 1 rfl) ?_
        refine lv_aload_n hx hb dX3_measureAll_31 rfl (lv_at hl 0 rfl) ?_
        refine va_get (D := D) (ci := 3) (v := .ref (ad 21)) (C := RX3) (T := TX3) (N := 5) hx hb hts hiX3 hown hK hP 20 wXg20 rfl 1 (by decide) (hts (.fieldLink RX3 9 "ArcGuesser$Learner" "chosen" "[I") (List.mem_of_getElem? (i := 3) rfl)) (fun _ h9 => h9) rfl dX3_measureAll_32 ?_
        refine lv_iload_n hx hb dX3_measureAll_35 rfl (lv_at hl 3 rfl) ?_
        refine va_iald hx hb hK hP 21 0 wXg21 rfl hq.1 dX3_measureAll_36 ?_
        have hq := hq.2
        refine lv_aload_n hx hb dX3_measureAll_37 rfl (lv_at hl 2 rfl) ?_
        refine va_getN (D := D) (ci := 1) (v := .ref (ad 15)) (C := RX1) (T := TX1) (N := 9) hx hb hts hiX1 hown hK hP 14 wXg14 rfl 4 (by decide) (va_Nw.use rfl (hN (.fieldLinkNest RX3 45 "ArcGuesser$Candidates" "pairs" "[I" "ArcGuesser") (List.mem_of_getElem? (i := 16) rfl))) (fun _ h9 => h9) rfl dX3_measureAll_38 ?_
        refine lv_iload hx hb dX3_measureAll_41 (lv_at hl 4 rfl) ?_
        refine va_iald hx hb hK hP 15 0 wXg15 rfl hq.1 dX3_measureAll_43 ?_
        have hq := hq.2
        refine w_calll (va_runVN (As := [.int (σ.1 21 (v3).toNatClampNeg), .int (σ.1 15 (v4).toNatClampNeg)]) (rest := [.int v4, .ref (ad 27)]) ⟨hx, hb, hml, hown, hts⟩ (mtX4_partsOf l D ad cA A σ (σ.1 21 (v3).toNatClampNeg) (σ.1 15 (v4).toNatClampNeg) _ hq) ⟨va_cnB 2 hts ggX3_measureAll_X4_partsOf rfl rfl rfl (hN (.methodLinkNest RX3 48 yX4_partsOf "ArcGuesser") (List.mem_of_getElem? (i := 63) rfl)) (hts (.initialized RX4) (List.mem_of_getElem? (i := 5) rfl)) (by decide +kernel) ⟨Nat.le_of_ble_eq_true rfl, Nat.le_of_ble_eq_true rfl⟩, hts (.instanceMethod yX4_partsOf) (List.mem_of_getElem? (i := 4) rfl), hts (.selects RX4 yX4_partsOf yX4_partsOf) (List.mem_of_getElem? (i := 6) rfl)⟩ ⟨stW_blind nwX_ok, va_recv hK hP (ci := 4) (q0 := 11) rfl wXg11, stW_pass hA hS hN hK hP hD nwX_ok⟩ rfl rfl hl.1 rfl (lv_room (Nat.le_of_ble_eq_true rfl)) dX3_measureAll_44 ⟨Nat.le_of_ble_eq_true rfl, Nat.le_of_ble_eq_true rfl⟩) hS (fun r3 σ3 H locs hq hP hD hS => ?_)
        refine va_last hx hb hK hP hD hS 27 1 wXg27 rfl hq.1 dX3_measureAll_47 (fun H locs hP hD hS => ?_)
        have hP := wXsP27 hP
        have hD := wXsD27 hD
        have hq := hq.2
        refine lv_iinc (v := (v4 + (1 : Int32))) (lv' := [(4, .int (v4 + (1 : Int32))), (0, .ref (ad 20)), (1, .ref (ad 11)), (2, .ref (ad 14)), (3, .int v3)]) hx hb dX3_measureAll_48 hl (k := 4) rfl (by rfl) (by decide) rfl (fun ls hl => ?_)
        refine lv_goto (tgt := 13) hx hb dX3_measureAll_51 (by decide) ?_
        rw [hK13] at hq
        exact hq _ _ _ hP hD hS (lv_sub hl [1, 2, 3, 4, 0] rfl)
  have hq := hwp K2 K13 hk2 hk13
  refine lv_iconst (v := (0 : Int32)) hx hb dX3_measureAll_0 (by decide) ?_
  refine lv_istore_n (lv' := [(3, .int (0 : Int32)), (0, .ref (ad 20)), (1, .ref (ad 11)), (2, .ref (ad 14))]) hx hb dX3_measureAll_1 rfl hl (by decide) rfl (fun ls hl => ?_)
  rw [hK2] at hq
  exact hq _ _ _ hP hD hS (lv_sub hl [1, 2, 3, 0] rfl)
