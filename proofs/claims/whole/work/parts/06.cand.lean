/-! ArcGuesser$Board.greatestDivisor(JJ)J -/
def X0_greatestDivisor_b9 (p0 : Int64) (p2 : Int64) (K9 : Sto → Int64 → Int64 → Int32 → Prop) (Post : Int64 → Sto → Prop) (σ : Sto) (v4 : Int64) (v6 : Int64) (v8 : Int32) : Prop :=
  (((100 : Int32) ≤ v8 → (Post v4 σ)) ∧ (¬ (100 : Int32) ≤ v8 → (((lg_cmp v6 (0 : Int64)) = 0 → (Post v4 σ)) ∧ (¬ (lg_cmp v6 (0 : Int64)) = 0 → ((¬ v6 = 0) ∧ (K9 σ v6 (v4 - v4 / v6 * v6) (v8 + (1 : Int32))))))))
def X0_greatestDivisor_wp (σ : Sto) (p0 : Int64) (p2 : Int64) (Post : Int64 → Sto → Prop) : Prop := ∀ (K9 : Sto → Int64 → Int64 → Int32 → Prop), (∀ (σ : Sto) (v4 : Int64) (v6 : Int64) (v8 : Int32), X0_greatestDivisor_b9 p0 p2 K9 Post σ v4 v6 v8 → K9 σ v4 v6 v8) → 
  (K9 σ p0 p2 (0 : Int32))
set_option maxHeartbeats 4000000 in
set_option maxRecDepth 100000 in
theorem mtX0_greatestDivisor (l : Launch) (D : va_G) (ad : Nat → Nat) (cA : Nat → ClassId) (A : Nat → Prop) (σ : Sto) (p0 : Int64) (p2 : Int64) (Post : Int64 → Sto → Prop) (hwp : X0_greatestDivisor_wp σ p0 p2 Post) : Met l yX0_greatestDivisor wsX0_greatestDivisor ({ frames := 0, cells := 0, slots := 0, locals := 0 }) (va_Pc [.long p0, .long p2] (stW D (tyX cA) nwX (wX ad cA) A σ)) (va_Ql Post (enW D (wX ad cA) A) A) 0 0 A := by
  refine Met.ofW (cc := cX0_greatestDivisor) (maxL := 11) (ret := (some .long)) (by decide) rfl ?_
  intro p e s m args below meth c s₁ B hml hv
  obtain ⟨rfl, hA, hN, hP, hK, hD⟩ := hv
  have hx := B.exec
  have hb := B.bytes
  have hr := B.returns
  have hts := atoms_spec (ws := wsX0_greatestDivisor) B.pre
  have hown : s.vm.findClass RX0 = some m.cls := findClass_of_methodNamed B.named
  have hlocks := B.notSynchronized
  have hS : va_S A s.heap s.heap [] := va_S.rf
  have hl := lv_entry ([.long p0, .long p2]) (n := 11) (Nat.le_of_ble_eq_true rfl)
  rw [lg_entry_eq]
  generalize (lg_sl ([.long p0, .long p2]) ++ List.replicate (11 - (lg_sl ([.long p0, .long p2])).length) Slot.unset).toArray = ls at hl ⊢
  have hl : lv_has ls 11 [(0, .long p0), (2, .long p2)] := hl
  obtain ⟨K9, hK9⟩ : ∃ K : Sto → Int64 → Int64 → Int32 → Prop, K = fun (σ : Sto) (v4 : Int64) (v6 : Int64) (v8 : Int32) => ∀ (H : Heap) (locs : List Loc) (ls : Array Slot), va_P D vwCl ((wX ad cA) σ) H → va_D A ((wX ad cA) σ) → va_S A s.heap H locs → lv_has ls 11 [(4, .long v4), (6, .long v6), (8, .int v8)] → W p l e (headSpec wsX0_greatestDivisor ({ frames := 0, cells := 0, slots := 0, locals := 0 })).room s m ([.long p0, .long p2] : List Value).toArray below meth c H locs 0 0 (MQ below (va_Ql Post (enW D (wX ad cA) A) A) ([.long p0, .long p2] : List Value).toArray s 0 0 A) (F0 m 9 ls []) := ⟨_, rfl⟩
  have hk9 : ∀ (σ : Sto) (v4 : Int64) (v6 : Int64) (v8 : Int32), X0_greatestDivisor_b9 p0 p2 K9 Post σ v4 v6 v8 → K9 σ v4 v6 v8 := by
    intro σ v4 v6 v8 hq
    rw [hK9]
    intro H locs ls hP hD hS hl
    unfold X0_greatestDivisor_b9 at hq
    refine lv_iload hx hb dX0_greatestDivisor_9 (lv_at hl 2 rfl) ?_
    refine lv_bipush (v := (100 : Int32)) hx hb dX0_greatestDivisor_11 (by decide) ?_
    refine lv_icmp_ge (tgt := 44) hx hb dX0_greatestDivisor_13 (by decide) (fun hc => ?_) (fun hc => ?_)
    · have hq := hq.1 hc
      refine lv_lload hx hb dX0_greatestDivisor_44 (lv_at hl 0 rfl) ?_
      exact W.lret (v := v4) hx hb hr (fun t ht hW => ⟨⟨v4, σ, rfl, hq, by rw [ht]; exact hP, hD⟩, hS.F ht⟩) hS.2.2 dX0_greatestDivisor_46
    · have hq := hq.2 hc
      refine lv_lload hx hb dX0_greatestDivisor_16 (lv_at hl 1 rfl) ?_
      refine lv_lconst (v := (0 : Int64)) hx hb dX0_greatestDivisor_18 (by decide) ?_
      refine W.lcmp hx hb dX0_greatestDivisor_19 ?_
      refine lv_if_eq (tgt := 44) hx hb dX0_greatestDivisor_20 (by decide) (fun hc => ?_) (fun hc => ?_)
      · have hq := hq.1 hc
        refine lv_lload hx hb dX0_greatestDivisor_44 (lv_at hl 0 rfl) ?_
        exact W.lret (v := v4) hx hb hr (fun t ht hW => ⟨⟨v4, σ, rfl, hq, by rw [ht]; exact hP, hD⟩, hS.F ht⟩) hS.2.2 dX0_greatestDivisor_46
      · have hq := hq.2 hc
        refine lv_lload hx hb dX0_greatestDivisor_23 (lv_at hl 0 rfl) ?_
        refine lv_lload hx hb dX0_greatestDivisor_25 (lv_at hl 1 rfl) ?_
        refine lv_lrem hx hb dX0_greatestDivisor_27 hq.1 ?_
        have hq := hq.2
        refine lv_lstore (lv' := [(9, .long (v4 - v4 / v6 * v6)), (4, .long v4), (6, .long v6), (8, .int v8)]) hx hb dX0_greatestDivisor_28 hl (by decide) rfl (fun ls hl => ?_)
        refine lv_lload hx hb dX0_greatestDivisor_30 (lv_at hl 2 rfl) ?_
        refine lv_lstore (lv' := [(4, .long v6), (9, .long (v4 - v4 / v6 * v6)), (6, .long v6), (8, .int v8)]) hx hb dX0_greatestDivisor_32 hl (by decide) rfl (fun ls hl => ?_)
        refine lv_lload hx hb dX0_greatestDivisor_34 (lv_at hl 1 rfl) ?_
        refine lv_lstore (lv' := [(6, .long (v4 - v4 / v6 * v6)), (4, .long v6), (9, .long (v4 - v4 / v6 * v6)), (8, .int v8)]) hx hb dX0_greatestDivisor_36 hl (by decide) rfl (fun ls hl => ?_)
        refine lv_iinc (v := (v8 + (1 : Int32))) (lv' := [(8, .int (v8 + (1 : Int32))), (6, .long (v4 - v4 / v6 * v6)), (4, .long v6), (9, .long (v4 - v4 / v6 * v6))]) hx hb dX0_greatestDivisor_38 hl (k := 3) rfl (by rfl) (by decide) rfl (fun ls hl => ?_)
        refine lv_goto (tgt := 9) hx hb dX0_greatestDivisor_41 (by decide) ?_
        rw [hK9] at hq
        exact hq _ _ _ hP hD hS (lv_sub hl [2, 1, 0] rfl)
  have hq := hwp K9 hk9
  refine lv_lload_n hx hb dX0_greatestDivisor_0 rfl (lv_at hl 0 rfl) ?_
  refine lv_lstore (lv' := [(4, .long p0), (0, .long p0), (2, .long p2)]) hx hb dX0_greatestDivisor_1 hl (by decide) rfl (fun ls hl => ?_)
  refine lv_lload_n hx hb dX0_greatestDivisor_3 rfl (lv_at hl 2 rfl) ?_
  refine lv_lstore (lv' := [(6, .long p2), (4, .long p0), (0, .long p0), (2, .long p2)]) hx hb dX0_greatestDivisor_4 hl (by decide) rfl (fun ls hl => ?_)
  refine lv_iconst (v := (0 : Int32)) hx hb dX0_greatestDivisor_6 (by decide) ?_
  refine lv_istore (lv' := [(8, .int (0 : Int32)), (6, .long p2), (4, .long p0), (0, .long p0), (2, .long p2)]) hx hb dX0_greatestDivisor_7 hl (by decide) rfl (fun ls hl => ?_)
  rw [hK9] at hq
  exact hq _ _ _ hP hD hS (lv_sub hl [2, 1, 0] rfl)
/-! ArcGuesser$Board.show(JJ)V -/
def X0_show_wp (σ : Sto) (p1 : Int64) (p3 : Int64) (Post : Sto → Prop) : Prop :=
  (X0_greatestDivisor_wp σ (if 0 < p1 then p1 else -p1) p3 (fun r1 σ1 => (((lg_cmp r1 (0 : Int64)) ≤ 0 → (Post σ1)) ∧ (¬ (lg_cmp r1 (0 : Int64)) ≤ 0 → ((¬ r1 = 0) ∧ ((¬ r1 = 0) ∧ (Post (sJ (sJ σ1 29 0 (p1 / r1)) 29 1 (p3 / r1)))))))))
set_option maxHeartbeats 4000000 in
set_option maxRecDepth 100000 in
theorem mtX0_show (l : Launch) (D : va_G) (ad : Nat → Nat) (cA : Nat → ClassId) (A : Nat → Prop) (σ : Sto) (p1 : Int64) (p3 : Int64) (Post : Sto → Prop) (hwp : X0_show_wp σ p1 p3 Post) : Met l yX0_show wsX0_show ({ frames := 1, cells := 0, slots := 0, locals := 30 }) (va_Pc [.ref (ad 29), .long p1, .long p3] (stW D (tyX cA) nwX (wX ad cA) A σ)) (va_Qv Post (enW D (wX ad cA) A) A) 0 0 A := by
  refine Met.ofW (cc := cX0_show) (maxL := 7) (ret := none) (by decide) rfl ?_
  intro p e s m args below meth c s₁ B hml hv
  obtain ⟨rfl, hA, hN, hP, hK, hD⟩ := hv
  have hx := B.exec
  have hb := B.bytes
  have hr := B.returns
  have hts := atoms_spec (ws := wsX0_show) B.pre
  have hown : s.vm.findClass RX0 = some m.cls := findClass_of_methodNamed B.named
  have hlocks := B.notSynchronized
  have hiX0 : ∀ w ∈ wsX00, w ∈ wsX0_show := by decide +kernel
  have hS : va_S A s.heap s.heap [] := va_S.rf
  have hl := lv_entry ([.ref (ad 29), .long p1, .long p3]) (n := 7) (Nat.le_of_ble_eq_true rfl)
  rw [lg_entry_eq]
  generalize (lg_sl ([.ref (ad 29), .long p1, .long p3]) ++ List.replicate (7 - (lg_sl ([.ref (ad 29), .long p1, .long p3])).length) Slot.unset).toArray = ls at hl ⊢
  have hl : lv_has ls 7 [(0, .ref (ad 29)), (1, .long p1), (3, .long p3)] := hl
  have hq := hwp
  unfold X0_show_wp at hq
  refine lv_lload_n hx hb dX0_show_0 rfl (lv_at hl 1 rfl) ?_
  refine va_mabs_long hx hb (by rw [hml]; exact hl.1.symm) hown (hts (.methodLink RX0 13 Lib.MathLoose.abs_long.x) (List.mem_of_getElem? (i := 1) rfl)) (hts (.static Lib.MathLoose.abs_long.x) (List.mem_of_getElem? (i := 2) rfl)) (hts (.initialized "java/lang/Math") (List.mem_of_getElem? (i := 3) rfl)) (hts (.code Lib.MathLoose.abs_long.x Lib.MathLoose.abs_long.code 2 (some .long)) (List.mem_of_getElem? (i := 4) rfl)) (Nat.le_of_ble_eq_true rfl) (Nat.le_of_ble_eq_true rfl) (Nat.zero_le _) (Nat.zero_le _) dX0_show_1 ?_
  refine lv_lload_n hx hb dX0_show_4 rfl (lv_at hl 2 rfl) ?_
  refine w_calll (va_runS (As := [.long (if 0 < p1 then p1 else -p1), .long p3]) (rest := []) ⟨hx, hb, hml, hown, hts⟩ (mtX0_greatestDivisor l D ad cA A σ (if 0 < p1 then p1 else -p1) p3 _ hq) (va_cwS 2 hts gX0_show_X0_greatestDivisor rfl rfl rfl (by decide +kernel) ⟨Nat.le_of_ble_eq_true rfl, Nat.le_of_ble_eq_true rfl⟩) ⟨stW_blind nwX_ok, stW_pass hA hS hN hK hP hD nwX_ok⟩ rfl rfl hl.1 rfl (lv_room (Nat.le_of_ble_eq_true rfl)) dX0_show_5 ⟨Nat.le_of_ble_eq_true rfl, Nat.le_of_ble_eq_true rfl⟩) hS (fun r1 σ1 H locs hq hP hD hS => ?_)
  refine lv_lstore (lv' := [(5, .long r1), (0, .ref (ad 29)), (1, .long p1), (3, .long p3)]) hx hb dX0_show_8 hl (by decide) rfl (fun ls hl => ?_)
  refine lv_lload hx hb dX0_show_10 (lv_at hl 0 rfl) ?_
  refine lv_lconst (v := (0 : Int64)) hx hb dX0_show_12 (by decide) ?_
  refine W.lcmp hx hb dX0_show_13 ?_
  refine lv_if_le (tgt := 33) hx hb dX0_show_14 (by decide) (fun hc => ?_) (fun hc => ?_)
  · have hq := hq.1 hc
    exact W.vret hx hb hr (fun t ht hW => ⟨⟨σ1, rfl, hq, by rw [ht]; exact hP, hD⟩, hS.F ht⟩) hS.2.2 dX0_show_33
  · have hq := hq.2 hc
    refine lv_aload_n hx hb dX0_show_17 rfl (lv_at hl 1 rfl) ?_
    refine lv_lload_n hx hb dX0_show_18 rfl (lv_at hl 2 rfl) ?_
    refine lv_lload hx hb dX0_show_19 (lv_at hl 0 rfl) ?_
    refine lv_ldiv hx hb dX0_show_21 hq.1 ?_
    have hq := hq.2
    refine va_put (D := D) (ci := 0) (v := .long (p1 / r1)) (ty := .long) (C := RX0) (T := TX0) (N := 2) hx hb hts hiX0 tyX0 tyX0_ok nmX0 hown hK hP hD hS 29 wXg29 rfl 0 (by decide) (hts (.fieldLink RX0 23 "ArcGuesser$Board" "above" "J") (List.mem_of_getElem? (i := 5) rfl)) (fun _ h9 => h9) rfl (by decide +kernel) rfl rfl (Nat.le_of_ble_eq_true rfl) dX0_show_22 (fun H locs hP hD hS => ?_)
    have hP := wXfP29_0 hP
    have hD := wXfD29_0 hD
    refine lv_aload_n hx hb dX0_show_25 rfl (lv_at hl 1 rfl) ?_
    refine lv_lload_n hx hb dX0_show_26 rfl (lv_at hl 3 rfl) ?_
    refine lv_lload hx hb dX0_show_27 (lv_at hl 0 rfl) ?_
    refine lv_ldiv hx hb dX0_show_29 hq.1 ?_
    have hq := hq.2
    refine va_put (D := D) (ci := 0) (v := .long (p3 / r1)) (ty := .long) (C := RX0) (T := TX0) (N := 2) hx hb hts hiX0 tyX0 tyX0_ok nmX0 hown hK hP hD hS 29 wXg29 rfl 1 (by decide) (hts (.fieldLink RX0 7 "ArcGuesser$Board" "below" "J") (List.mem_of_getElem? (i := 6) rfl)) (fun _ h9 => h9) rfl (by decide +kernel) rfl rfl (Nat.le_of_ble_eq_true rfl) dX0_show_30 (fun H locs hP hD hS => ?_)
    have hP := wXfP29_1 hP
    have hD := wXfD29_1 hD
    exact W.vret hx hb hr (fun t ht hW => ⟨⟨(sJ (sJ σ1 29 0 (p1 / r1)) 29 1 (p3 / r1)), rfl, hq, by rw [ht]; exact hP, hD⟩, hS.F ht⟩) hS.2.2 dX0_show_33
/-! ArcGuesser$Candidates.addCandidate(I)V -/
def X1_addCandidate_wp (σ : Sto) (p1 : Int32) (Post : Sto → Prop) : Prop :=
  (vp_in p1 132 ∧ ((¬ (σ.1 4 (p1).toNatClampNeg) = (2 : Int32) → (vp_in (σ.1 14 3) 132 ∧ (vp_in (σ.1 14 1) 132 ∧ (Post (sI (sI (sI (sI σ 18 ((σ.1 14 3)).toNatClampNeg (σ.1 14 1)) 14 3 ((σ.1 14 3) + (1 : Int32))) 15 ((σ.1 14 1)).toNatClampNeg p1) 14 1 ((σ.1 14 1) + (1 : Int32))))))) ∧ ((σ.1 4 (p1).toNatClampNeg) = (2 : Int32) → (vp_in (σ.1 14 2) 132 ∧ (vp_in (σ.1 14 1) 132 ∧ (Post (sI (sI (sI (sI σ 17 ((σ.1 14 2)).toNatClampNeg (σ.1 14 1)) 14 2 ((σ.1 14 2) + (1 : Int32))) 15 ((σ.1 14 1)).toNatClampNeg p1) 14 1 ((σ.1 14 1) + (1 : Int32)))))))))
set_option maxHeartbeats 4000000 in
set_option maxRecDepth 100000 in
theorem mtX1_addCandidate (l : Launch) (D : va_G) (ad : Nat → Nat) (cA : Nat → ClassId) (A : Nat → Prop) (σ : Sto) (p1 : Int32) (Post : Sto → Prop) (hwp : X1_addCandidate_wp σ p1 Post) : Met l yX1_addCandidate wsX1_addCandidate ({ frames := 0, cells := 0, slots := 0, locals := 0 }) (va_Pc [.ref (ad 14), .int p1] (stW D (tyX cA) nwX (wX ad cA) A σ)) (va_Qv Post (enW D (wX ad cA) A) A) 0 0 A := by
  refine Met.ofW (cc := cX1_addCandidate) (maxL := 2) (ret := none) (by decide) rfl ?_
  intro p e s m args below meth c s₁ B hml hv
  obtain ⟨rfl, hA, hN, hP, hK, hD⟩ := hv
  have hx := B.exec
  have hb := B.bytes
  have hr := B.returns
  have hts := atoms_spec (ws := wsX1_addCandidate) B.pre
  have hown : s.vm.findClass RX1 = some m.cls := findClass_of_methodNamed B.named
  have hlocks := B.notSynchronized
  have hiX1 : ∀ w ∈ wsX10, w ∈ wsX1_addCandidate := by decide +kernel
  have hiX6 : ∀ w ∈ wsX60, w ∈ wsX1_addCandidate := by decide +kernel
  have hS : va_S A s.heap s.heap [] := va_S.rf
  have hl := lv_entry ([.ref (ad 14), .int p1]) (n := 2) (Nat.le_of_ble_eq_true rfl)
  rw [lg_entry_eq]
  generalize (lg_sl ([.ref (ad 14), .int p1]) ++ List.replicate (2 - (lg_sl ([.ref (ad 14), .int p1])).length) Slot.unset).toArray = ls at hl ⊢
  have hl : lv_has ls 2 [(0, .ref (ad 14)), (1, .int p1)] := hl
  have hq := hwp
  unfold X1_addCandidate_wp at hq
  refine lv_aload_n hx hb dX1_addCandidate_0 rfl (lv_at hl 0 rfl) ?_
  refine va_get (D := D) (ci := 1) (v := .ref (ad 1)) (C := RX1) (T := TX1) (N := 9) hx hb hts hiX1 hown hK hP 14 wXg14 rfl 0 (by decide) (hts (.fieldLink RX1 28 "ArcGuesser$Candidates" "net" "LArcGuesser$Net;") (List.mem_of_getElem? (i := 1) rfl)) (fun _ h9 => h9) rfl dX1_addCandidate_1 ?_
  refine va_getN (D := D) (ci := 6) (v := .ref (ad 4)) (C := RX6) (T := TX6) (N := 13) hx hb hts hiX6 hown hK hP 1 wXg1 rfl 6 (by decide) (va_Nw.use rfl (hN (.fieldLinkNest RX1 47 "ArcGuesser$Net" "states" "[I" "ArcGuesser") (List.mem_of_getElem? (i := 14) rfl))) (fun _ h9 => h9) rfl dX1_addCandidate_4 ?_
  refine lv_iload_n hx hb dX1_addCandidate_7 rfl (lv_at hl 1 rfl) ?_
  refine va_iald hx hb hK hP 4 0 wXg4 rfl hq.1 dX1_addCandidate_8 ?_
  have hq := hq.2
  refine lv_iconst (v := (2 : Int32)) hx hb dX1_addCandidate_9 (by decide) ?_
  refine lv_icmp_ne (tgt := 39) hx hb dX1_addCandidate_10 (by decide) (fun hc => ?_) (fun hc => ?_)
  · have hq := hq.1 hc
    refine lv_aload_n hx hb dX1_addCandidate_39 rfl (lv_at hl 0 rfl) ?_
    refine va_get (D := D) (ci := 1) (v := .ref (ad 18)) (C := RX1) (T := TX1) (N := 9) hx hb hts hiX1 hown hK hP 14 wXg14 rfl 7 (by decide) (hts (.fieldLink RX1 22 "ArcGuesser$Candidates" "empties" "[I") (List.mem_of_getElem? (i := 5) rfl)) (fun _ h9 => h9) rfl dX1_addCandidate_40 ?_
    refine lv_aload_n hx hb dX1_addCandidate_43 rfl (lv_at hl 0 rfl) ?_
    refine va_get (D := D) (ci := 1) (v := .int (σ.1 14 3)) (C := RX1) (T := TX1) (N := 9) hx hb hts hiX1 hown hK hP 14 wXg14 rfl 3 (by decide) (hts (.fieldLink RX1 39 "ArcGuesser$Candidates" "emptyTotal" "I") (List.mem_of_getElem? (i := 6) rfl)) (fun _ h9 => h9) rfl dX1_addCandidate_44 ?_
    refine lv_aload_n hx hb dX1_addCandidate_47 rfl (lv_at hl 0 rfl) ?_
    refine va_get (D := D) (ci := 1) (v := .int (σ.1 14 1)) (C := RX1) (T := TX1) (N := 9) hx hb hts hiX1 hown hK hP 14 wXg14 rfl 1 (by decide) (hts (.fieldLink RX1 32 "ArcGuesser$Candidates" "total" "I") (List.mem_of_getElem? (i := 4) rfl)) (fun _ h9 => h9) rfl dX1_addCandidate_48 ?_
    refine va_iast hx hb hK hP hD hS 18 0 wXg18 rfl hq.1 dX1_addCandidate_51 (fun H locs hP hD hS => ?_)
    have hP := wXsP18 hP
    have hD := wXsD18 hD
    have hq := hq.2
    refine lv_aload_n hx hb dX1_addCandidate_52 rfl (lv_at hl 0 rfl) ?_
    refine lv_dup hx hb dX1_addCandidate_53 rfl ?_
    refine va_get (D := D) (ci := 1) (v := .int (σ.1 14 3)) (C := RX1) (T := TX1) (N := 9) hx hb hts hiX1 hown hK hP 14 wXg14 rfl 3 (by decide) (hts (.fieldLink RX1 39 "ArcGuesser$Candidates" "emptyTotal" "I") (List.mem_of_getElem? (i := 6) rfl)) (fun _ h9 => h9) rfl dX1_addCandidate_54 ?_
    refine lv_iconst (v := (1 : Int32)) hx hb dX1_addCandidate_57 (by decide) ?_
    refine lv_iadd hx hb dX1_addCandidate_58 ?_
    refine va_put (D := D) (ci := 1) (v := .int ((σ.1 14 3) + (1 : Int32))) (ty := .int) (C := RX1) (T := TX1) (N := 9) hx hb hts hiX1 tyX1 tyX1_ok nmX1 hown hK hP hD hS 14 wXg14 rfl 3 (by decide) (hts (.fieldLink RX1 39 "ArcGuesser$Candidates" "emptyTotal" "I") (List.mem_of_getElem? (i := 6) rfl)) (fun _ h9 => h9) rfl (by decide +kernel) rfl rfl (Nat.le_of_ble_eq_true rfl) dX1_addCandidate_59 (fun H locs hP hD hS => ?_)
    have hP := wXfP14_3 hP
    have hD := wXfD14_3 hD
    refine lv_aload_n hx hb dX1_addCandidate_62 rfl (lv_at hl 0 rfl) ?_
    refine va_get (D := D) (ci := 1) (v := .ref (ad 15)) (C := RX1) (T := TX1) (N := 9) hx hb hts hiX1 hown hK hP 14 wXg14 rfl 4 (by decide) (hts (.fieldLink RX1 9 "ArcGuesser$Candidates" "pairs" "[I") (List.mem_of_getElem? (i := 7) rfl)) (fun _ h9 => h9) rfl dX1_addCandidate_63 ?_
    refine lv_aload_n hx hb dX1_addCandidate_66 rfl (lv_at hl 0 rfl) ?_
    refine va_get (D := D) (ci := 1) (v := .int (σ.1 14 1)) (C := RX1) (T := TX1) (N := 9) hx hb hts hiX1 hown hK hP 14 wXg14 rfl 1 (by decide) (hts (.fieldLink RX1 32 "ArcGuesser$Candidates" "total" "I") (List.mem_of_getElem? (i := 4) rfl)) (fun _ h9 => h9) rfl dX1_addCandidate_67 ?_
    refine lv_iload_n hx hb dX1_addCandidate_70 rfl (lv_at hl 1 rfl) ?_
    refine va_iast hx hb hK hP hD hS 15 0 wXg15 rfl hq.1 dX1_addCandidate_71 (fun H locs hP hD hS => ?_)
    have hP := wXsP15 hP
    have hD := wXsD15 hD
    have hq := hq.2
    refine lv_aload_n hx hb dX1_addCandidate_72 rfl (lv_at hl 0 rfl) ?_
    refine lv_dup hx hb dX1_addCandidate_73 rfl ?_
    refine va_get (D := D) (ci := 1) (v := .int (σ.1 14 1)) (C := RX1) (T := TX1) (N := 9) hx hb hts hiX1 hown hK hP 14 wXg14 rfl 1 (by decide) (hts (.fieldLink RX1 32 "ArcGuesser$Candidates" "total" "I") (List.mem_of_getElem? (i := 4) rfl)) (fun _ h9 => h9) rfl dX1_addCandidate_74 ?_
    refine lv_iconst (v := (1 : Int32)) hx hb dX1_addCandidate_77 (by decide) ?_
    refine lv_iadd hx hb dX1_addCandidate_78 ?_
    refine va_put (D := D) (ci := 1) (v := .int ((σ.1 14 1) + (1 : Int32))) (ty := .int) (C := RX1) (T := TX1) (N := 9) hx hb hts hiX1 tyX1 tyX1_ok nmX1 hown hK hP hD hS 14 wXg14 rfl 1 (by decide) (hts (.fieldLink RX1 32 "ArcGuesser$Candidates" "total" "I") (List.mem_of_getElem? (i := 4) rfl)) (fun _ h9 => h9) rfl (by decide +kernel) rfl rfl (Nat.le_of_ble_eq_true rfl) dX1_addCandidate_79 (fun H locs hP hD hS => ?_)
    have hP := wXfP14_1 hP
    have hD := wXfD14_1 hD
    exact W.vret hx hb hr (fun t ht hW => ⟨⟨(sI (sI (sI (sI σ 18 ((σ.1 14 3)).toNatClampNeg (σ.1 14 1)) 14 3 ((σ.1 14 3) + (1 : Int32))) 15 ((σ.1 14 1)).toNatClampNeg p1) 14 1 ((σ.1 14 1) + (1 : Int32))), rfl, hq, by rw [ht]; exact hP, hD⟩, hS.F ht⟩) hS.2.2 dX1_addCandidate_82
  · have hq := hq.2 hc
    refine lv_aload_n hx hb dX1_addCandidate_13 rfl (lv_at hl 0 rfl) ?_
    refine va_get (D := D) (ci := 1) (v := .ref (ad 17)) (C := RX1) (T := TX1) (N := 9) hx hb hts hiX1 hown hK hP 14 wXg14 rfl 6 (by decide) (hts (.fieldLink RX1 19 "ArcGuesser$Candidates" "founds" "[I") (List.mem_of_getElem? (i := 2) rfl)) (fun _ h9 => h9) rfl dX1_addCandidate_14 ?_
    refine lv_aload_n hx hb dX1_addCandidate_17 rfl (lv_at hl 0 rfl) ?_
    refine va_get (D := D) (ci := 1) (v := .int (σ.1 14 2)) (C := RX1) (T := TX1) (N := 9) hx hb hts hiX1 hown hK hP 14 wXg14 rfl 2 (by decide) (hts (.fieldLink RX1 36 "ArcGuesser$Candidates" "foundTotal" "I") (List.mem_of_getElem? (i := 3) rfl)) (fun _ h9 => h9) rfl dX1_addCandidate_18 ?_
    refine lv_aload_n hx hb dX1_addCandidate_21 rfl (lv_at hl 0 rfl) ?_
    refine va_get (D := D) (ci := 1) (v := .int (σ.1 14 1)) (C := RX1) (T := TX1) (N := 9) hx hb hts hiX1 hown hK hP 14 wXg14 rfl 1 (by decide) (hts (.fieldLink RX1 32 "ArcGuesser$Candidates" "total" "I") (List.mem_of_getElem? (i := 4) rfl)) (fun _ h9 => h9) rfl dX1_addCandidate_22 ?_
    refine va_iast hx hb hK hP hD hS 17 0 wXg17 rfl hq.1 dX1_addCandidate_25 (fun H locs hP hD hS => ?_)
    have hP := wXsP17 hP
    have hD := wXsD17 hD
    have hq := hq.2
    refine lv_aload_n hx hb dX1_addCandidate_26 rfl (lv_at hl 0 rfl) ?_
    refine lv_dup hx hb dX1_addCandidate_27 rfl ?_
    refine va_get (D := D) (ci := 1) (v := .int (σ.1 14 2)) (C := RX1) (T := TX1) (N := 9) hx hb hts hiX1 hown hK hP 14 wXg14 rfl 2 (by decide) (hts (.fieldLink RX1 36 "ArcGuesser$Candidates" "foundTotal" "I") (List.mem_of_getElem? (i := 3) rfl)) (fun _ h9 => h9) rfl dX1_addCandidate_28 ?_
    refine lv_iconst (v := (1 : Int32)) hx hb dX1_addCandidate_31 (by decide) ?_
    refine lv_iadd hx hb dX1_addCandidate_32 ?_
    refine va_put (D := D) (ci := 1) (v := .int ((σ.1 14 2) + (1 : Int32))) (ty := .int) (C := RX1) (T := TX1) (N := 9) hx hb hts hiX1 tyX1 tyX1_ok nmX1 hown hK hP hD hS 14 wXg14 rfl 2 (by decide) (hts (.fieldLink RX1 36 "ArcGuesser$Candidates" "foundTotal" "I") (List.mem_of_getElem? (i := 3) rfl)) (fun _ h9 => h9) rfl (by decide +kernel) rfl rfl (Nat.le_of_ble_eq_true rfl) dX1_addCandidate_33 (fun H locs hP hD hS => ?_)
    have hP := wXfP14_2 hP
    have hD := wXfD14_2 hD
    refine lv_goto (tgt := 62) hx hb dX1_addCandidate_36 (by decide) ?_
    refine lv_aload_n hx hb dX1_addCandidate_62 rfl (lv_at hl 0 rfl) ?_
    refine va_get (D := D) (ci := 1) (v := .ref (ad 15)) (C := RX1) (T := TX1) (N := 9) hx hb hts hiX1 hown hK hP 14 wXg14 rfl 4 (by decide) (hts (.fieldLink RX1 9 "ArcGuesser$Candidates" "pairs" "[I") (List.mem_of_getElem? (i := 7) rfl)) (fun _ h9 => h9) rfl dX1_addCandidate_63 ?_
    refine lv_aload_n hx hb dX1_addCandidate_66 rfl (lv_at hl 0 rfl) ?_
    refine va_get (D := D) (ci := 1) (v := .int (σ.1 14 1)) (C := RX1) (T := TX1) (N := 9) hx hb hts hiX1 hown hK hP 14 wXg14 rfl 1 (by decide) (hts (.fieldLink RX1 32 "ArcGuesser$Candidates" "total" "I") (List.mem_of_getElem? (i := 4) rfl)) (fun _ h9 => h9) rfl dX1_addCandidate_67 ?_
    refine lv_iload_n hx hb dX1_addCandidate_70 rfl (lv_at hl 1 rfl) ?_
    refine va_iast hx hb hK hP hD hS 15 0 wXg15 rfl hq.1 dX1_addCandidate_71 (fun H locs hP hD hS => ?_)
    have hP := wXsP15 hP
    have hD := wXsD15 hD
    have hq := hq.2
    refine lv_aload_n hx hb dX1_addCandidate_72 rfl (lv_at hl 0 rfl) ?_
    refine lv_dup hx hb dX1_addCandidate_73 rfl ?_
    refine va_get (D := D) (ci := 1) (v := .int (σ.1 14 1)) (C := RX1) (T := TX1) (N := 9) hx hb hts hiX1 hown hK hP 14 wXg14 rfl 1 (by decide) (hts (.fieldLink RX1 32 "ArcGuesser$Candidates" "total" "I") (List.mem_of_getElem? (i := 4) rfl)) (fun _ h9 => h9) rfl dX1_addCandidate_74 ?_
    refine lv_iconst (v := (1 : Int32)) hx hb dX1_addCandidate_77 (by decide) ?_
    refine lv_iadd hx hb dX1_addCandidate_78 ?_
    refine va_put (D := D) (ci := 1) (v := .int ((σ.1 14 1) + (1 : Int32))) (ty := .int) (C := RX1) (T := TX1) (N := 9) hx hb hts hiX1 tyX1 tyX1_ok nmX1 hown hK hP hD hS 14 wXg14 rfl 1 (by decide) (hts (.fieldLink RX1 32 "ArcGuesser$Candidates" "total" "I") (List.mem_of_getElem? (i := 4) rfl)) (fun _ h9 => h9) rfl (by decide +kernel) rfl rfl (Nat.le_of_ble_eq_true rfl) dX1_addCandidate_79 (fun H locs hP hD hS => ?_)
    have hP := wXfP14_1 hP
    have hD := wXfD14_1 hD
    exact W.vret hx hb hr (fun t ht hW => ⟨⟨(sI (sI (sI (sI σ 17 ((σ.1 14 2)).toNatClampNeg (σ.1 14 1)) 14 2 ((σ.1 14 2) + (1 : Int32))) 15 ((σ.1 14 1)).toNatClampNeg p1) 14 1 ((σ.1 14 1) + (1 : Int32))), rfl, hq, by rw [ht]; exact hP, hD⟩, hS.F ht⟩) hS.2.2 dX1_addCandidate_82
/-! ArcGuesser$Candidates.canBeJudged()Z -/
def X1_canBeJudged_wp (σ : Sto)  (Post : Int32 → Sto → Prop) : Prop :=
  (((σ.1 14 2) ≤ 0 → (Post (0 : Int32) σ)) ∧ (¬ (σ.1 14 2) ≤ 0 → (((σ.1 14 3) ≤ 0 → (Post (0 : Int32) σ)) ∧ (¬ (σ.1 14 3) ≤ 0 → (Post (1 : Int32) σ)))))
set_option maxHeartbeats 4000000 in
set_option maxRecDepth 100000 in
theorem mtX1_canBeJudged (l : Launch) (D : va_G) (ad : Nat → Nat) (cA : Nat → ClassId) (A : Nat → Prop) (σ : Sto)  (Post : Int32 → Sto → Prop) (hwp : X1_canBeJudged_wp σ  Post) : Met l yX1_canBeJudged wsX1_canBeJudged ({ frames := 0, cells := 0, slots := 0, locals := 0 }) (va_Pc [.ref (ad 14)] (stW D (tyX cA) nwX (wX ad cA) A σ)) (va_Qi Post (enW D (wX ad cA) A) A) 0 0 A := by
  refine Met.ofW (cc := cX1_canBeJudged) (maxL := 1) (ret := (some .boolean)) (by decide) rfl ?_
  intro p e s m args below meth c s₁ B hml hv
  obtain ⟨rfl, hA, hN, hP, hK, hD⟩ := hv
  have hx := B.exec
  have hb := B.bytes
  have hr := B.returns
  have hts := atoms_spec (ws := wsX1_canBeJudged) B.pre
  have hown : s.vm.findClass RX1 = some m.cls := findClass_of_methodNamed B.named
  have hlocks := B.notSynchronized
  have hiX1 : ∀ w ∈ wsX10, w ∈ wsX1_canBeJudged := by decide +kernel
  have hS : va_S A s.heap s.heap [] := va_S.rf
  have hl := lv_entry ([.ref (ad 14)]) (n := 1) (Nat.le_of_ble_eq_true rfl)
  rw [lg_entry_eq]
  generalize (lg_sl ([.ref (ad 14)]) ++ List.replicate (1 - (lg_sl ([.ref (ad 14)])).length) Slot.unset).toArray = ls at hl ⊢
  have hl : lv_has ls 1 [(0, .ref (ad 14))] := hl
  have hq := hwp
  unfold X1_canBeJudged_wp at hq
  refine lv_aload_n hx hb dX1_canBeJudged_0 rfl (lv_at hl 0 rfl) ?_
  refine va_get (D := D) (ci := 1) (v := .int (σ.1 14 2)) (C := RX1) (T := TX1) (N := 9) hx hb hts hiX1 hown hK hP 14 wXg14 rfl 2 (by decide) (hts (.fieldLink RX1 36 "ArcGuesser$Candidates" "foundTotal" "I") (List.mem_of_getElem? (i := 1) rfl)) (fun _ h9 => h9) rfl dX1_canBeJudged_1 ?_
  refine lv_if_le (tgt := 18) hx hb dX1_canBeJudged_4 (by decide) (fun hc => ?_) (fun hc => ?_)
  · have hq := hq.1 hc
    refine lv_iconst (v := (0 : Int32)) hx hb dX1_canBeJudged_18 (by decide) ?_
    exact W.zret (v := (0 : Int32)) hx hb hr rfl (fun t ht hW => ⟨⟨(0 : Int32), σ, rfl, hq, by rw [ht]; exact hP, hD⟩, hS.F ht⟩) hS.2.2 dX1_canBeJudged_19
  · have hq := hq.2 hc
    refine lv_aload_n hx hb dX1_canBeJudged_7 rfl (lv_at hl 0 rfl) ?_
    refine va_get (D := D) (ci := 1) (v := .int (σ.1 14 3)) (C := RX1) (T := TX1) (N := 9) hx hb hts hiX1 hown hK hP 14 wXg14 rfl 3 (by decide) (hts (.fieldLink RX1 39 "ArcGuesser$Candidates" "emptyTotal" "I") (List.mem_of_getElem? (i := 2) rfl)) (fun _ h9 => h9) rfl dX1_canBeJudged_8 ?_
    refine lv_if_le (tgt := 18) hx hb dX1_canBeJudged_11 (by decide) (fun hc => ?_) (fun hc => ?_)
    · have hq := hq.1 hc
      refine lv_iconst (v := (0 : Int32)) hx hb dX1_canBeJudged_18 (by decide) ?_
      exact W.zret (v := (0 : Int32)) hx hb hr rfl (fun t ht hW => ⟨⟨(0 : Int32), σ, rfl, hq, by rw [ht]; exact hP, hD⟩, hS.F ht⟩) hS.2.2 dX1_canBeJudged_19
    · have hq := hq.2 hc
      refine lv_iconst (v := (1 : Int32)) hx hb dX1_canBeJudged_14 (by decide) ?_
      refine lv_goto (tgt := 19) hx hb dX1_canBeJudged_15 (by decide) ?_
      exact W.zret (v := (1 : Int32)) hx hb hr rfl (fun t ht hW => ⟨⟨(1 : Int32), σ, rfl, hq, by rw [ht]; exact hP, hD⟩, hS.F ht⟩) hS.2.2 dX1_canBeJudged_19
/-! ArcGuesser$Candidates.pairAtPlace(I)I -/
def X1_pairAtPlace_wp (σ : Sto) (p1 : Int32) (Post : Int32 → Sto → Prop) : Prop :=
  (vp_in p1 132 ∧ (vp_in (σ.1 19 (p1).toNatClampNeg) 132 ∧ (Post (σ.1 15 ((σ.1 19 (p1).toNatClampNeg)).toNatClampNeg) σ)))
set_option maxHeartbeats 4000000 in
set_option maxRecDepth 100000 in
theorem mtX1_pairAtPlace (l : Launch) (D : va_G) (ad : Nat → Nat) (cA : Nat → ClassId) (A : Nat → Prop) (σ : Sto) (p1 : Int32) (Post : Int32 → Sto → Prop) (hwp : X1_pairAtPlace_wp σ p1 Post) : Met l yX1_pairAtPlace wsX1_pairAtPlace ({ frames := 0, cells := 0, slots := 0, locals := 0 }) (va_Pc [.ref (ad 14), .int p1] (stW D (tyX cA) nwX (wX ad cA) A σ)) (va_Qi Post (enW D (wX ad cA) A) A) 0 0 A := by
  refine Met.ofW (cc := cX1_pairAtPlace) (maxL := 2) (ret := (some .int)) (by decide) rfl ?_
  intro p e s m args below meth c s₁ B hml hv
  obtain ⟨rfl, hA, hN, hP, hK, hD⟩ := hv
  have hx := B.exec
  have hb := B.bytes
  have hr := B.returns
  have hts := atoms_spec (ws := wsX1_pairAtPlace) B.pre
  have hown : s.vm.findClass RX1 = some m.cls := findClass_of_methodNamed B.named
  have hlocks := B.notSynchronized
  have hiX1 : ∀ w ∈ wsX10, w ∈ wsX1_pairAtPlace := by decide +kernel
  have hS : va_S A s.heap s.heap [] := va_S.rf
  have hl := lv_entry ([.ref (ad 14), .int p1]) (n := 2) (Nat.le_of_ble_eq_true rfl)
  rw [lg_entry_eq]
  generalize (lg_sl ([.ref (ad 14), .int p1]) ++ List.replicate (2 - (lg_sl ([.ref (ad 14), .int p1])).length) Slot.unset).toArray = ls at hl ⊢
  have hl : lv_has ls 2 [(0, .ref (ad 14)), (1, .int p1)] := hl
  have hq := hwp
  unfold X1_pairAtPlace_wp at hq
  refine lv_aload_n hx hb dX1_pairAtPlace_0 rfl (lv_at hl 0 rfl) ?_
  refine va_get (D := D) (ci := 1) (v := .ref (ad 15)) (C := RX1) (T := TX1) (N := 9) hx hb hts hiX1 hown hK hP 14 wXg14 rfl 4 (by decide) (hts (.fieldLink RX1 9 "ArcGuesser$Candidates" "pairs" "[I") (List.mem_of_getElem? (i := 1) rfl)) (fun _ h9 => h9) rfl dX1_pairAtPlace_1 ?_
  refine lv_aload_n hx hb dX1_pairAtPlace_4 rfl (lv_at hl 0 rfl) ?_
  refine va_get (D := D) (ci := 1) (v := .ref (ad 19)) (C := RX1) (T := TX1) (N := 9) hx hb hts hiX1 hown hK hP 14 wXg14 rfl 8 (by decide) (hts (.fieldLink RX1 25 "ArcGuesser$Candidates" "order" "[I") (List.mem_of_getElem? (i := 2) rfl)) (fun _ h9 => h9) rfl dX1_pairAtPlace_5 ?_
  refine lv_iload_n hx hb dX1_pairAtPlace_8 rfl (lv_at hl 1 rfl) ?_
  refine va_iald hx hb hK hP 19 0 wXg19 rfl hq.1 dX1_pairAtPlace_9 ?_
  have hq := hq.2
  refine va_iald hx hb hK hP 15 0 wXg15 rfl hq.1 dX1_pairAtPlace_10 ?_
  have hq := hq.2
  exact W.iret (v := (σ.1 15 ((σ.1 19 (p1).toNatClampNeg)).toNatClampNeg)) hx hb hr (fun t ht hW => ⟨⟨(σ.1 15 ((σ.1 19 (p1).toNatClampNeg)).toNatClampNeg), σ, rfl, hq, by rw [ht]; exact hP, hD⟩, hS.F ht⟩) hS.2.2 dX1_pairAtPlace_11
/-! ArcGuesser$Candidates.foundInFirst(I)I -/
def X1_foundInFirst_b4 (p1 : Int32) (K4 : Sto → Int32 → Int32 → Prop) (Post : Int32 → Sto → Prop) (σ : Sto) (v2 : Int32) (v3 : Int32) : Prop :=
  ((p1 ≤ v3 → (Post v2 σ)) ∧ (¬ p1 ≤ v3 → (X1_pairAtPlace_wp σ v3 (fun r1 σ1 => (vp_in r1 132 ∧ ((¬ (σ1.1 4 (r1).toNatClampNeg) = (2 : Int32) → (K4 σ1 v2 (v3 + (1 : Int32)))) ∧ ((σ1.1 4 (r1).toNatClampNeg) = (2 : Int32) → (K4 σ1 (v2 + (1 : Int32)) (v3 + (1 : Int32))))))))))
def X1_foundInFirst_wp (σ : Sto) (p1 : Int32) (Post : Int32 → Sto → Prop) : Prop := ∀ (K4 : Sto → Int32 → Int32 → Prop), (∀ (σ : Sto) (v2 : Int32) (v3 : Int32), X1_foundInFirst_b4 p1 K4 Post σ v2 v3 → K4 σ v2 v3) → 
  (K4 σ (0 : Int32) (0 : Int32))
set_option maxHeartbeats 4000000 in
set_option maxRecDepth 100000 in
theorem mtX1_foundInFirst (l : Launch) (D : va_G) (ad : Nat → Nat) (cA : Nat → ClassId) (A : Nat → Prop) (σ : Sto) (p1 : Int32) (Post : Int32 → Sto → Prop) (hwp : X1_foundInFirst_wp σ p1 Post) : Met l yX1_foundInFirst wsX1_foundInFirst ({ frames := 1, cells := 0, slots := 0, locals := 21 }) (va_Pc [.ref (ad 14), .int p1] (stW D (tyX cA) nwX (wX ad cA) A σ)) (va_Qi Post (enW D (wX ad cA) A) A) 0 0 A := by
  refine Met.ofW (cc := cX1_foundInFirst) (maxL := 4) (ret := (some .int)) (by decide) rfl ?_
  intro p e s m args below meth c s₁ B hml hv
  obtain ⟨rfl, hA, hN, hP, hK, hD⟩ := hv
  have hx := B.exec
  have hb := B.bytes
  have hr := B.returns
  have hts := atoms_spec (ws := wsX1_foundInFirst) B.pre
  have hown : s.vm.findClass RX1 = some m.cls := findClass_of_methodNamed B.named
  have hlocks := B.notSynchronized
  have hiX1 : ∀ w ∈ wsX10, w ∈ wsX1_foundInFirst := by decide +kernel
  have hiX6 : ∀ w ∈ wsX60, w ∈ wsX1_foundInFirst := by decide +kernel
  have hS : va_S A s.heap s.heap [] := va_S.rf
  have hl := lv_entry ([.ref (ad 14), .int p1]) (n := 4) (Nat.le_of_ble_eq_true rfl)
  rw [lg_entry_eq]
  generalize (lg_sl ([.ref (ad 14), .int p1]) ++ List.replicate (4 - (lg_sl ([.ref (ad 14), .int p1])).length) Slot.unset).toArray = ls at hl ⊢
  have hl : lv_has ls 4 [(0, .ref (ad 14)), (1, .int p1)] := hl
  obtain ⟨K4, hK4⟩ : ∃ K : Sto → Int32 → Int32 → Prop, K = fun (σ : Sto) (v2 : Int32) (v3 : Int32) => ∀ (H : Heap) (locs : List Loc) (ls : Array Slot), va_P D vwCl ((wX ad cA) σ) H → va_D A ((wX ad cA) σ) → va_S A s.heap H locs → lv_has ls 4 [(0, .ref (ad 14)), (1, .int p1), (2, .int v2), (3, .int v3)] → W p l e (headSpec wsX1_foundInFirst ({ frames := 1, cells := 0, slots := 0, locals := 21 })).room s m ([.ref (ad 14), .int p1] : List Value).toArray below meth c H locs 0 0 (MQ below (va_Qi Post (enW D (wX ad cA) A) A) ([.ref (ad 14), .int p1] : List Value).toArray s 0 0 A) (F0 m 4 ls []) := ⟨_, rfl⟩
  have hk4 : ∀ (σ : Sto) (v2 : Int32) (v3 : Int32), X1_foundInFirst_b4 p1 K4 Post σ v2 v3 → K4 σ v2 v3 := by
    intro σ v2 v3 hq
    rw [hK4]
    intro H locs ls hP hD hS hl
    unfold X1_foundInFirst_b4 at hq
    refine lv_iload_n hx hb dX1_foundInFirst_4 rfl (lv_at hl 3 rfl) ?_
    refine lv_iload_n hx hb dX1_foundInFirst_5 rfl (lv_at hl 1 rfl) ?_
    refine lv_icmp_ge (tgt := 35) hx hb dX1_foundInFirst_6 (by decide) (fun hc => ?_) (fun hc => ?_)
    · have hq := hq.1 hc
      refine lv_iload_n hx hb dX1_foundInFirst_35 rfl (lv_at hl 2 rfl) ?_
      exact W.iret (v := v2) hx hb hr (fun t ht hW => ⟨⟨v2, σ, rfl, hq, by rw [ht]; exact hP, hD⟩, hS.F ht⟩) hS.2.2 dX1_foundInFirst_36
    · have hq := hq.2 hc
      refine lv_aload_n hx hb dX1_foundInFirst_9 rfl (lv_at hl 0 rfl) ?_
      refine va_get (D := D) (ci := 1) (v := .ref (ad 1)) (C := RX1) (T := TX1) (N := 9) hx hb hts hiX1 hown hK hP 14 wXg14 rfl 0 (by decide) (hts (.fieldLink RX1 28 "ArcGuesser$Candidates" "net" "LArcGuesser$Net;") (List.mem_of_getElem? (i := 1) rfl)) (fun _ h9 => h9) rfl dX1_foundInFirst_10 ?_
      refine va_getN (D := D) (ci := 6) (v := .ref (ad 4)) (C := RX6) (T := TX6) (N := 13) hx hb hts hiX6 hown hK hP 1 wXg1 rfl 6 (by decide) (va_Nw.use rfl (hN (.fieldLinkNest RX1 47 "ArcGuesser$Net" "states" "[I" "ArcGuesser") (List.mem_of_getElem? (i := 14) rfl))) (fun _ h9 => h9) rfl dX1_foundInFirst_13 ?_
      refine lv_aload_n hx hb dX1_foundInFirst_16 rfl (lv_at hl 0 rfl) ?_
      refine lv_iload_n hx hb dX1_foundInFirst_17 rfl (lv_at hl 3 rfl) ?_
      refine w_calli (va_runV (As := [.int v3]) (rest := [.ref (ad 4)]) ⟨hx, hb, hml, hown, hts⟩ (mtX1_pairAtPlace l D ad cA A σ v3 _ hq) (cwV 1 hts gX1_foundInFirst_X1_pairAtPlace rfl rfl rfl (by decide +kernel) ⟨Nat.le_of_ble_eq_true rfl, Nat.le_of_ble_eq_true rfl⟩) ⟨stW_blind nwX_ok, va_recv hK hP (ci := 1) (q0 := 14) rfl wXg14, stW_pass hA hS hN hK hP hD nwX_ok⟩ rfl rfl hl.1 rfl (lv_room (Nat.le_of_ble_eq_true rfl)) dX1_foundInFirst_18 ⟨Nat.le_of_ble_eq_true rfl, Nat.le_of_ble_eq_true rfl⟩) hS (fun r1 σ1 H locs hq hP hD hS => ?_)
      refine va_iald hx hb hK hP 4 0 wXg4 rfl hq.1 dX1_foundInFirst_21 ?_
      have hq := hq.2
      refine lv_iconst (v := (2 : Int32)) hx hb dX1_foundInFirst_22 (by decide) ?_
      refine lv_icmp_ne (tgt := 29) hx hb dX1_foundInFirst_23 (by decide) (fun hc => ?_) (fun hc => ?_)
      · have hq := hq.1 hc
        refine lv_iinc (v := (v3 + (1 : Int32))) (lv' := [(3, .int (v3 + (1 : Int32))), (0, .ref (ad 14)), (1, .int p1), (2, .int v2)]) hx hb dX1_foundInFirst_29 hl (k := 3) rfl (by rfl) (by decide) rfl (fun ls hl => ?_)
        refine lv_goto (tgt := 4) hx hb dX1_foundInFirst_32 (by decide) ?_
        rw [hK4] at hq
        exact hq _ _ _ hP hD hS (lv_sub hl [1, 2, 3, 0] rfl)
      · have hq := hq.2 hc
        refine lv_iinc (v := (v2 + (1 : Int32))) (lv' := [(2, .int (v2 + (1 : Int32))), (0, .ref (ad 14)), (1, .int p1), (3, .int v3)]) hx hb dX1_foundInFirst_26 hl (k := 2) rfl (by rfl) (by decide) rfl (fun ls hl => ?_)
        refine lv_iinc (v := (v3 + (1 : Int32))) (lv' := [(3, .int (v3 + (1 : Int32))), (2, .int (v2 + (1 : Int32))), (0, .ref (ad 14)), (1, .int p1)]) hx hb dX1_foundInFirst_29 hl (k := 3) rfl (by rfl) (by decide) rfl (fun ls hl => ?_)
        refine lv_goto (tgt := 4) hx hb dX1_foundInFirst_32 (by decide) ?_
        rw [hK4] at hq
        exact hq _ _ _ hP hD hS (lv_sub hl [2, 3, 1, 0] rfl)
  have hq := hwp K4 hk4
  refine lv_iconst (v := (0 : Int32)) hx hb dX1_foundInFirst_0 (by decide) ?_
  refine lv_istore_n (lv' := [(2, .int (0 : Int32)), (0, .ref (ad 14)), (1, .int p1)]) hx hb dX1_foundInFirst_1 rfl hl (by decide) rfl (fun ls hl => ?_)
  refine lv_iconst (v := (0 : Int32)) hx hb dX1_foundInFirst_2 (by decide) ?_
  refine lv_istore_n (lv' := [(3, .int (0 : Int32)), (2, .int (0 : Int32)), (0, .ref (ad 14)), (1, .int p1)]) hx hb dX1_foundInFirst_3 rfl hl (by decide) rfl (fun ls hl => ?_)
  rw [hK4] at hq
  exact hq _ _ _ hP hD hS (lv_sub hl [2, 3, 1, 0] rfl)
/-! ArcGuesser$Candidates.gather()V -/
def X1_gather_b17  (K17 : Sto → Int32 → Prop) (Post : Sto → Prop) (σ : Sto) (v1 : Int32) : Prop :=
  (((σ.1 1 2) ≤ v1 → (Post σ)) ∧ (¬ (σ.1 1 2) ≤ v1 → (vp_in v1 132 ∧ (((σ.1 4 (v1).toNatClampNeg) = (1 : Int32) → (K17 σ (v1 + (1 : Int32)))) ∧ (¬ (σ.1 4 (v1).toNatClampNeg) = (1 : Int32) → (X1_addCandidate_wp σ v1 (fun σ1 => (K17 σ1 (v1 + (1 : Int32))))))))))
def X1_gather_wp (σ : Sto)  (Post : Sto → Prop) : Prop := ∀ (K17 : Sto → Int32 → Prop), (∀ (σ : Sto) (v1 : Int32), X1_gather_b17  K17 Post σ v1 → K17 σ v1) → 
  (K17 (sI (sI (sI σ 14 1 (0 : Int32)) 14 2 (0 : Int32)) 14 3 (0 : Int32)) (0 : Int32))
set_option maxHeartbeats 4000000 in
set_option maxRecDepth 100000 in
theorem mtX1_gather (l : Launch) (D : va_G) (ad : Nat → Nat) (cA : Nat → ClassId) (A : Nat → Prop) (σ : Sto)  (Post : Sto → Prop) (hwp : X1_gather_wp σ  Post) : Met l yX1_gather wsX1_gather ({ frames := 1, cells := 0, slots := 0, locals := 21 }) (va_Pc [.ref (ad 14)] (stW D (tyX cA) nwX (wX ad cA) A σ)) (va_Qv Post (enW D (wX ad cA) A) A) 0 0 A := by
  refine Met.ofW (cc := cX1_gather) (maxL := 2) (ret := none) (by decide) rfl ?_
  intro p e s m args below meth c s₁ B hml hv
  obtain ⟨rfl, hA, hN, hP, hK, hD⟩ := hv
  have hx := B.exec
  have hb := B.bytes
  have hr := B.returns
  have hts := atoms_spec (ws := wsX1_gather) B.pre
  have hown : s.vm.findClass RX1 = some m.cls := findClass_of_methodNamed B.named
  have hlocks := B.notSynchronized
  have hiX1 : ∀ w ∈ wsX10, w ∈ wsX1_gather := by decide +kernel
  have hiX6 : ∀ w ∈ wsX60, w ∈ wsX1_gather := by decide +kernel
  have hS : va_S A s.heap s.heap [] := va_S.rf
  have hl := lv_entry ([.ref (ad 14)]) (n := 2) (Nat.le_of_ble_eq_true rfl)
  rw [lg_entry_eq]
  generalize (lg_sl ([.ref (ad 14)]) ++ List.replicate (2 - (lg_sl ([.ref (ad 14)])).length) Slot.unset).toArray = ls at hl ⊢
  have hl : lv_has ls 2 [(0, .ref (ad 14))] := hl
  obtain ⟨K17, hK17⟩ : ∃ K : Sto → Int32 → Prop, K = fun (σ : Sto) (v1 : Int32) => ∀ (H : Heap) (locs : List Loc) (ls : Array Slot), va_P D vwCl ((wX ad cA) σ) H → va_D A ((wX ad cA) σ) → va_S A s.heap H locs → lv_has ls 2 [(0, .ref (ad 14)), (1, .int v1)] → W p l e (headSpec wsX1_gather ({ frames := 1, cells := 0, slots := 0, locals := 21 })).room s m ([.ref (ad 14)] : List Value).toArray below meth c H locs 0 0 (MQ below (va_Qv Post (enW D (wX ad cA) A) A) ([.ref (ad 14)] : List Value).toArray s 0 0 A) (F0 m 17 ls []) := ⟨_, rfl⟩
  have hk17 : ∀ (σ : Sto) (v1 : Int32), X1_gather_b17  K17 Post σ v1 → K17 σ v1 := by
    intro σ v1 hq
    rw [hK17]
    intro H locs ls hP hD hS hl
    unfold X1_gather_b17 at hq
    refine lv_iload_n hx hb dX1_gather_17 rfl (lv_at hl 1 rfl) ?_
    refine lv_aload_n hx hb dX1_gather_18 rfl (lv_at hl 0 rfl) ?_
    refine va_get (D := D) (ci := 1) (v := .ref (ad 1)) (C := RX1) (T := TX1) (N := 9) hx hb hts hiX1 hown hK hP 14 wXg14 rfl 0 (by decide) (hts (.fieldLink RX1 28 "ArcGuesser$Candidates" "net" "LArcGuesser$Net;") (List.mem_of_getElem? (i := 4) rfl)) (fun _ h9 => h9) rfl dX1_gather_19 ?_
    refine va_getN (D := D) (ci := 6) (v := .int (σ.1 1 2)) (C := RX6) (T := TX6) (N := 13) hx hb hts hiX6 hown hK hP 1 wXg1 rfl 2 (by decide) (va_Nw.use rfl (hN (.fieldLinkNest RX1 42 "ArcGuesser$Net" "pairTotal" "I" "ArcGuesser") (List.mem_of_getElem? (i := 13) rfl))) (fun _ h9 => h9) rfl dX1_gather_22 ?_
    refine lv_icmp_ge (tgt := 52) hx hb dX1_gather_25 (by decide) (fun hc => ?_) (fun hc => ?_)
    · have hq := hq.1 hc
      exact W.vret hx hb hr (fun t ht hW => ⟨⟨σ, rfl, hq, by rw [ht]; exact hP, hD⟩, hS.F ht⟩) hS.2.2 dX1_gather_52
    · have hq := hq.2 hc
      refine lv_aload_n hx hb dX1_gather_28 rfl (lv_at hl 0 rfl) ?_
      refine va_get (D := D) (ci := 1) (v := .ref (ad 1)) (C := RX1) (T := TX1) (N := 9) hx hb hts hiX1 hown hK hP 14 wXg14 rfl 0 (by decide) (hts (.fieldLink RX1 28 "ArcGuesser$Candidates" "net" "LArcGuesser$Net;") (List.mem_of_getElem? (i := 4) rfl)) (fun _ h9 => h9) rfl dX1_gather_29 ?_
      refine va_getN (D := D) (ci := 6) (v := .ref (ad 4)) (C := RX6) (T := TX6) (N := 13) hx hb hts hiX6 hown hK hP 1 wXg1 rfl 6 (by decide) (va_Nw.use rfl (hN (.fieldLinkNest RX1 47 "ArcGuesser$Net" "states" "[I" "ArcGuesser") (List.mem_of_getElem? (i := 14) rfl))) (fun _ h9 => h9) rfl dX1_gather_32 ?_
      refine lv_iload_n hx hb dX1_gather_35 rfl (lv_at hl 1 rfl) ?_
      refine va_iald hx hb hK hP 4 0 wXg4 rfl hq.1 dX1_gather_36 ?_
      have hq := hq.2
      refine lv_iconst (v := (1 : Int32)) hx hb dX1_gather_37 (by decide) ?_
      refine lv_icmp_eq (tgt := 46) hx hb dX1_gather_38 (by decide) (fun hc => ?_) (fun hc => ?_)
      · have hq := hq.1 hc
        refine lv_iinc (v := (v1 + (1 : Int32))) (lv' := [(1, .int (v1 + (1 : Int32))), (0, .ref (ad 14))]) hx hb dX1_gather_46 hl (k := 1) rfl (by rfl) (by decide) rfl (fun ls hl => ?_)
        refine lv_goto (tgt := 17) hx hb dX1_gather_49 (by decide) ?_
        rw [hK17] at hq
        exact hq _ _ _ hP hD hS (lv_sub hl [1, 0] rfl)
      · have hq := hq.2 hc
        refine lv_aload_n hx hb dX1_gather_41 rfl (lv_at hl 0 rfl) ?_
        refine lv_iload_n hx hb dX1_gather_42 rfl (lv_at hl 1 rfl) ?_
        refine w_callv (va_runV (As := [.int v1]) (rest := []) ⟨hx, hb, hml, hown, hts⟩ (mtX1_addCandidate l D ad cA A σ v1 _ hq) (cwV 1 hts gX1_gather_X1_addCandidate rfl rfl rfl (by decide +kernel) ⟨Nat.le_of_ble_eq_true rfl, Nat.le_of_ble_eq_true rfl⟩) ⟨stW_blind nwX_ok, va_recv hK hP (ci := 1) (q0 := 14) rfl wXg14, stW_pass hA hS hN hK hP hD nwX_ok⟩ rfl rfl hl.1 rfl (lv_room (Nat.le_of_ble_eq_true rfl)) dX1_gather_43 ⟨Nat.le_of_ble_eq_true rfl, Nat.le_of_ble_eq_true rfl⟩) hS (fun σ1 H locs hq hP hD hS => ?_)
        refine lv_iinc (v := (v1 + (1 : Int32))) (lv' := [(1, .int (v1 + (1 : Int32))), (0, .ref (ad 14))]) hx hb dX1_gather_46 hl (k := 1) rfl (by rfl) (by decide) rfl (fun ls hl => ?_)
        refine lv_goto (tgt := 17) hx hb dX1_gather_49 (by decide) ?_
        rw [hK17] at hq
        exact hq _ _ _ hP hD hS (lv_sub hl [1, 0] rfl)
  have hq := hwp K17 hk17
  refine lv_aload_n hx hb dX1_gather_0 rfl (lv_at hl 0 rfl) ?_
  refine lv_iconst (v := (0 : Int32)) hx hb dX1_gather_1 (by decide) ?_
  refine va_put (D := D) (ci := 1) (v := .int (0 : Int32)) (ty := .int) (C := RX1) (T := TX1) (N := 9) hx hb hts hiX1 tyX1 tyX1_ok nmX1 hown hK hP hD hS 14 wXg14 rfl 1 (by decide) (hts (.fieldLink RX1 32 "ArcGuesser$Candidates" "total" "I") (List.mem_of_getElem? (i := 1) rfl)) (fun _ h9 => h9) rfl (by decide +kernel) rfl rfl (Nat.le_of_ble_eq_true rfl) dX1_gather_2 (fun H locs hP hD hS => ?_)
  have hP := wXfP14_1 hP
  have hD := wXfD14_1 hD
  refine lv_aload_n hx hb dX1_gather_5 rfl (lv_at hl 0 rfl) ?_
  refine lv_iconst (v := (0 : Int32)) hx hb dX1_gather_6 (by decide) ?_
  refine va_put (D := D) (ci := 1) (v := .int (0 : Int32)) (ty := .int) (C := RX1) (T := TX1) (N := 9) hx hb hts hiX1 tyX1 tyX1_ok nmX1 hown hK hP hD hS 14 wXg14 rfl 2 (by decide) (hts (.fieldLink RX1 36 "ArcGuesser$Candidates" "foundTotal" "I") (List.mem_of_getElem? (i := 2) rfl)) (fun _ h9 => h9) rfl (by decide +kernel) rfl rfl (Nat.le_of_ble_eq_true rfl) dX1_gather_7 (fun H locs hP hD hS => ?_)
  have hP := wXfP14_2 hP
  have hD := wXfD14_2 hD
  refine lv_aload_n hx hb dX1_gather_10 rfl (lv_at hl 0 rfl) ?_
  refine lv_iconst (v := (0 : Int32)) hx hb dX1_gather_11 (by decide) ?_
  refine va_put (D := D) (ci := 1) (v := .int (0 : Int32)) (ty := .int) (C := RX1) (T := TX1) (N := 9) hx hb hts hiX1 tyX1 tyX1_ok nmX1 hown hK hP hD hS 14 wXg14 rfl 3 (by decide) (hts (.fieldLink RX1 39 "ArcGuesser$Candidates" "emptyTotal" "I") (List.mem_of_getElem? (i := 3) rfl)) (fun _ h9 => h9) rfl (by decide +kernel) rfl rfl (Nat.le_of_ble_eq_true rfl) dX1_gather_12 (fun H locs hP hD hS => ?_)
  have hP := wXfP14_3 hP
  have hD := wXfD14_3 hD
  refine lv_iconst (v := (0 : Int32)) hx hb dX1_gather_15 (by decide) ?_
  refine lv_istore_n (lv' := [(1, .int (0 : Int32)), (0, .ref (ad 14))]) hx hb dX1_gather_16 rfl hl (by decide) rfl (fun ls hl => ?_)
  rw [hK17] at hq
  exact hq _ _ _ hP hD hS (lv_sub hl [1, 0] rfl)
/-! ArcGuesser$Candidates.halvesInAll()I -/
def X1_halvesInAll_wp (σ : Sto)  (Post : Int32 → Sto → Prop) : Prop :=
  (Post (((2 : Int32) * (σ.1 14 2)) * (σ.1 14 3)) σ)
set_option maxHeartbeats 4000000 in
set_option maxRecDepth 100000 in
theorem mtX1_halvesInAll (l : Launch) (D : va_G) (ad : Nat → Nat) (cA : Nat → ClassId) (A : Nat → Prop) (σ : Sto)  (Post : Int32 → Sto → Prop) (hwp : X1_halvesInAll_wp σ  Post) : Met l yX1_halvesInAll wsX1_halvesInAll ({ frames := 0, cells := 0, slots := 0, locals := 0 }) (va_Pc [.ref (ad 14)] (stW D (tyX cA) nwX (wX ad cA) A σ)) (va_Qi Post (enW D (wX ad cA) A) A) 0 0 A := by
  refine Met.ofW (cc := cX1_halvesInAll) (maxL := 1) (ret := (some .int)) (by decide) rfl ?_
  intro p e s m args below meth c s₁ B hml hv
  obtain ⟨rfl, hA, hN, hP, hK, hD⟩ := hv
  have hx := B.exec
  have hb := B.bytes
  have hr := B.returns
  have hts := atoms_spec (ws := wsX1_halvesInAll) B.pre
  have hown : s.vm.findClass RX1 = some m.cls := findClass_of_methodNamed B.named
  have hlocks := B.notSynchronized
  have hiX1 : ∀ w ∈ wsX10, w ∈ wsX1_halvesInAll := by decide +kernel
  have hS : va_S A s.heap s.heap [] := va_S.rf
  have hl := lv_entry ([.ref (ad 14)]) (n := 1) (Nat.le_of_ble_eq_true rfl)
  rw [lg_entry_eq]
  generalize (lg_sl ([.ref (ad 14)]) ++ List.replicate (1 - (lg_sl ([.ref (ad 14)])).length) Slot.unset).toArray = ls at hl ⊢
  have hl : lv_has ls 1 [(0, .ref (ad 14))] := hl
  have hq := hwp
  unfold X1_halvesInAll_wp at hq
  refine lv_iconst (v := (2 : Int32)) hx hb dX1_halvesInAll_0 (by decide) ?_
  refine lv_aload_n hx hb dX1_halvesInAll_1 rfl (lv_at hl 0 rfl) ?_
  refine va_get (D := D) (ci := 1) (v := .int (σ.1 14 2)) (C := RX1) (T := TX1) (N := 9) hx hb hts hiX1 hown hK hP 14 wXg14 rfl 2 (by decide) (hts (.fieldLink RX1 36 "ArcGuesser$Candidates" "foundTotal" "I") (List.mem_of_getElem? (i := 1) rfl)) (fun _ h9 => h9) rfl dX1_halvesInAll_2 ?_
  refine lv_imul hx hb dX1_halvesInAll_5 ?_
  refine lv_aload_n hx hb dX1_halvesInAll_6 rfl (lv_at hl 0 rfl) ?_
  refine va_get (D := D) (ci := 1) (v := .int (σ.1 14 3)) (C := RX1) (T := TX1) (N := 9) hx hb hts hiX1 hown hK hP 14 wXg14 rfl 3 (by decide) (hts (.fieldLink RX1 39 "ArcGuesser$Candidates" "emptyTotal" "I") (List.mem_of_getElem? (i := 2) rfl)) (fun _ h9 => h9) rfl dX1_halvesInAll_7 ?_
  refine lv_imul hx hb dX1_halvesInAll_10 ?_
  exact W.iret (v := (((2 : Int32) * (σ.1 14 2)) * (σ.1 14 3))) hx hb hr (fun t ht hW => ⟨⟨(((2 : Int32) * (σ.1 14 2)) * (σ.1 14 3)), σ, rfl, hq, by rw [ht]; exact hP, hD⟩, hS.F ht⟩) hS.2.2 dX1_halvesInAll_11
/-! ArcGuesser$Candidates.halvesOf(JJ)I -/
def X1_halvesOf_wp (σ : Sto) (p0 : Int64) (p2 : Int64) (Post : Int32 → Sto → Prop) : Prop :=
  (((lg_cmp p0 p2) ≤ 0 → ((¬ (lg_cmp p0 p2) = 0 → (Post (0 : Int32) σ)) ∧ ((lg_cmp p0 p2) = 0 → (Post (1 : Int32) σ)))) ∧ (¬ (lg_cmp p0 p2) ≤ 0 → (Post (2 : Int32) σ)))
set_option maxHeartbeats 4000000 in
set_option maxRecDepth 100000 in
theorem mtX1_halvesOf (l : Launch) (D : va_G) (ad : Nat → Nat) (cA : Nat → ClassId) (A : Nat → Prop) (σ : Sto) (p0 : Int64) (p2 : Int64) (Post : Int32 → Sto → Prop) (hwp : X1_halvesOf_wp σ p0 p2 Post) : Met l yX1_halvesOf wsX1_halvesOf ({ frames := 0, cells := 0, slots := 0, locals := 0 }) (va_Pc [.long p0, .long p2] (stW D (tyX cA) nwX (wX ad cA) A σ)) (va_Qi Post (enW D (wX ad cA) A) A) 0 0 A := by
  refine Met.ofW (cc := cX1_halvesOf) (maxL := 4) (ret := (some .int)) (by decide) rfl ?_
  intro p e s m args below meth c s₁ B hml hv
  obtain ⟨rfl, hA, hN, hP, hK, hD⟩ := hv
  have hx := B.exec
  have hb := B.bytes
  have hr := B.returns
  have hts := atoms_spec (ws := wsX1_halvesOf) B.pre
  have hown : s.vm.findClass RX1 = some m.cls := findClass_of_methodNamed B.named
  have hlocks := B.notSynchronized
  have hS : va_S A s.heap s.heap [] := va_S.rf
  have hl := lv_entry ([.long p0, .long p2]) (n := 4) (Nat.le_of_ble_eq_true rfl)
  rw [lg_entry_eq]
  generalize (lg_sl ([.long p0, .long p2]) ++ List.replicate (4 - (lg_sl ([.long p0, .long p2])).length) Slot.unset).toArray = ls at hl ⊢
  have hl : lv_has ls 4 [(0, .long p0), (2, .long p2)] := hl
  have hq := hwp
  unfold X1_halvesOf_wp at hq
  refine lv_lload_n hx hb dX1_halvesOf_0 rfl (lv_at hl 0 rfl) ?_
  refine lv_lload_n hx hb dX1_halvesOf_1 rfl (lv_at hl 1 rfl) ?_
  refine W.lcmp hx hb dX1_halvesOf_2 ?_
  refine lv_if_le (tgt := 8) hx hb dX1_halvesOf_3 (by decide) (fun hc => ?_) (fun hc => ?_)
  · have hq := hq.1 hc
    refine lv_lload_n hx hb dX1_halvesOf_8 rfl (lv_at hl 0 rfl) ?_
    refine lv_lload_n hx hb dX1_halvesOf_9 rfl (lv_at hl 1 rfl) ?_
    refine W.lcmp hx hb dX1_halvesOf_10 ?_
    refine lv_if_ne (tgt := 18) hx hb dX1_halvesOf_11 (by decide) (fun hc => ?_) (fun hc => ?_)
    · have hq := hq.1 hc
      refine lv_iconst (v := (0 : Int32)) hx hb dX1_halvesOf_18 (by decide) ?_
      exact W.iret (v := (0 : Int32)) hx hb hr (fun t ht hW => ⟨⟨(0 : Int32), σ, rfl, hq, by rw [ht]; exact hP, hD⟩, hS.F ht⟩) hS.2.2 dX1_halvesOf_19
    · have hq := hq.2 hc
      refine lv_iconst (v := (1 : Int32)) hx hb dX1_halvesOf_14 (by decide) ?_
      refine lv_goto (tgt := 19) hx hb dX1_halvesOf_15 (by decide) ?_
      exact W.iret (v := (1 : Int32)) hx hb hr (fun t ht hW => ⟨⟨(1 : Int32), σ, rfl, hq, by rw [ht]; exact hP, hD⟩, hS.F ht⟩) hS.2.2 dX1_halvesOf_19
  · have hq := hq.2 hc
    refine lv_iconst (v := (2 : Int32)) hx hb dX1_halvesOf_6 (by decide) ?_
    exact W.iret (v := (2 : Int32)) hx hb hr (fun t ht hW => ⟨⟨(2 : Int32), σ, rfl, hq, by rw [ht]; exact hP, hD⟩, hS.F ht⟩) hS.2.2 dX1_halvesOf_7
/-! ArcGuesser$Candidates.halvesWon()I -/
def X1_halvesWon_b4  (K4 : Sto → Int32 → Int32 → Prop) (K27 : Sto → Int32 → Int32 → Int64 → Int32 → Prop) (Post : Int32 → Sto → Prop) (σ : Sto) (v1 : Int32) (v2 : Int32) : Prop :=
  (((σ.1 14 2) ≤ v2 → (Post v1 σ)) ∧ (¬ (σ.1 14 2) ≤ v2 → (vp_in v2 132 ∧ (vp_in (σ.1 17 (v2).toNatClampNeg) 132 ∧ (K27 σ v1 v2 (σ.2 16 ((σ.1 17 (v2).toNatClampNeg)).toNatClampNeg) (0 : Int32))))))
def X1_halvesWon_b27  (K4 : Sto → Int32 → Int32 → Prop) (K27 : Sto → Int32 → Int32 → Int64 → Int32 → Prop) (Post : Int32 → Sto → Prop) (σ : Sto) (v1 : Int32) (v2 : Int32) (v3 : Int64) (v5 : Int32) : Prop :=
  (((σ.1 14 3) ≤ v5 → (K4 σ v1 (v2 + (1 : Int32)))) ∧ (¬ (σ.1 14 3) ≤ v5 → (vp_in v5 132 ∧ (vp_in (σ.1 18 (v5).toNatClampNeg) 132 ∧ (X1_halvesOf_wp σ v3 (σ.2 16 ((σ.1 18 (v5).toNatClampNeg)).toNatClampNeg) (fun r1 σ1 => (K27 σ1 (v1 + r1) v2 v3 (v5 + (1 : Int32)))))))))
def X1_halvesWon_wp (σ : Sto)  (Post : Int32 → Sto → Prop) : Prop := ∀ (K4 : Sto → Int32 → Int32 → Prop) (K27 : Sto → Int32 → Int32 → Int64 → Int32 → Prop), (∀ (σ : Sto) (v1 : Int32) (v2 : Int32), X1_halvesWon_b4  K4 K27 Post σ v1 v2 → K4 σ v1 v2) → (∀ (σ : Sto) (v1 : Int32) (v2 : Int32) (v3 : Int64) (v5 : Int32), X1_halvesWon_b27  K4 K27 Post σ v1 v2 v3 v5 → K27 σ v1 v2 v3 v5) → 
  (K4 σ (0 : Int32) (0 : Int32))
set_option maxHeartbeats 4000000 in
set_option maxRecDepth 100000 in
theorem mtX1_halvesWon (l : Launch) (D : va_G) (ad : Nat → Nat) (cA : Nat → ClassId) (A : Nat → Prop) (σ : Sto)  (Post : Int32 → Sto → Prop) (hwp : X1_halvesWon_wp σ  Post) : Met l yX1_halvesWon wsX1_halvesWon ({ frames := 1, cells := 0, slots := 0, locals := 23 }) (va_Pc [.ref (ad 14)] (stW D (tyX cA) nwX (wX ad cA) A σ)) (va_Qi Post (enW D (wX ad cA) A) A) 0 0 A := by
  refine Met.ofW (cc := cX1_halvesWon) (maxL := 6) (ret := (some .int)) (by decide) rfl ?_
  intro p e s m args below meth c s₁ B hml hv
  obtain ⟨rfl, hA, hN, hP, hK, hD⟩ := hv
  have hx := B.exec
  have hb := B.bytes
  have hr := B.returns
  have hts := atoms_spec (ws := wsX1_halvesWon) B.pre
  have hown : s.vm.findClass RX1 = some m.cls := findClass_of_methodNamed B.named
  have hlocks := B.notSynchronized
  have hiX1 : ∀ w ∈ wsX10, w ∈ wsX1_halvesWon := by decide +kernel
  have hS : va_S A s.heap s.heap [] := va_S.rf
  have hl := lv_entry ([.ref (ad 14)]) (n := 6) (Nat.le_of_ble_eq_true rfl)
  rw [lg_entry_eq]
  generalize (lg_sl ([.ref (ad 14)]) ++ List.replicate (6 - (lg_sl ([.ref (ad 14)])).length) Slot.unset).toArray = ls at hl ⊢
  have hl : lv_has ls 6 [(0, .ref (ad 14))] := hl
  obtain ⟨K4, hK4⟩ : ∃ K : Sto → Int32 → Int32 → Prop, K = fun (σ : Sto) (v1 : Int32) (v2 : Int32) => ∀ (H : Heap) (locs : List Loc) (ls : Array Slot), va_P D vwCl ((wX ad cA) σ) H → va_D A ((wX ad cA) σ) → va_S A s.heap H locs → lv_has ls 6 [(0, .ref (ad 14)), (1, .int v1), (2, .int v2)] → W p l e (headSpec wsX1_halvesWon ({ frames := 1, cells := 0, slots := 0, locals := 23 })).room s m ([.ref (ad 14)] : List Value).toArray below meth c H locs 0 0 (MQ below (va_Qi Post (enW D (wX ad cA) A) A) ([.ref (ad 14)] : List Value).toArray s 0 0 A) (F0 m 4 ls []) := ⟨_, rfl⟩
  obtain ⟨K27, hK27⟩ : ∃ K : Sto → Int32 → Int32 → Int64 → Int32 → Prop, K = fun (σ : Sto) (v1 : Int32) (v2 : Int32) (v3 : Int64) (v5 : Int32) => ∀ (H : Heap) (locs : List Loc) (ls : Array Slot), va_P D vwCl ((wX ad cA) σ) H → va_D A ((wX ad cA) σ) → va_S A s.heap H locs → lv_has ls 6 [(0, .ref (ad 14)), (1, .int v1), (2, .int v2), (3, .long v3), (5, .int v5)] → W p l e (headSpec wsX1_halvesWon ({ frames := 1, cells := 0, slots := 0, locals := 23 })).room s m ([.ref (ad 14)] : List Value).toArray below meth c H locs 0 0 (MQ below (va_Qi Post (enW D (wX ad cA) A) A) ([.ref (ad 14)] : List Value).toArray s 0 0 A) (F0 m 27 ls []) := ⟨_, rfl⟩
  have hk4 : ∀ (σ : Sto) (v1 : Int32) (v2 : Int32), X1_halvesWon_b4  K4 K27 Post σ v1 v2 → K4 σ v1 v2 := by
    intro σ v1 v2 hq
    rw [hK4]
    intro H locs ls hP hD hS hl
    unfold X1_halvesWon_b4 at hq
    refine lv_iload_n hx hb dX1_halvesWon_4 rfl (lv_at hl 2 rfl) ?_
    refine lv_aload_n hx hb dX1_halvesWon_5 rfl (lv_at hl 0 rfl) ?_
    refine va_get (D := D) (ci := 1) (v := .int (σ.1 14 2)) (C := RX1) (T := TX1) (N := 9) hx hb hts hiX1 hown hK hP 14 wXg14 rfl 2 (by decide) (hts (.fieldLink RX1 36 "ArcGuesser$Candidates" "foundTotal" "I") (List.mem_of_getElem? (i := 1) rfl)) (fun _ h9 => h9) rfl dX1_halvesWon_6 ?_
    refine lv_icmp_ge (tgt := 67) hx hb dX1_halvesWon_9 (by decide) (fun hc => ?_) (fun hc => ?_)
    · have hq := hq.1 hc
      refine lv_iload_n hx hb dX1_halvesWon_67 rfl (lv_at hl 1 rfl) ?_
      exact W.iret (v := v1) hx hb hr (fun t ht hW => ⟨⟨v1, σ, rfl, hq, by rw [ht]; exact hP, hD⟩, hS.F ht⟩) hS.2.2 dX1_halvesWon_68
    · have hq := hq.2 hc
      refine lv_aload_n hx hb dX1_halvesWon_12 rfl (lv_at hl 0 rfl) ?_
      refine va_get (D := D) (ci := 1) (v := .ref (ad 16)) (C := RX1) (T := TX1) (N := 9) hx hb hts hiX1 hown hK hP 14 wXg14 rfl 5 (by decide) (hts (.fieldLink RX1 15 "ArcGuesser$Candidates" "mixes" "[J") (List.mem_of_getElem? (i := 2) rfl)) (fun _ h9 => h9) rfl dX1_halvesWon_13 ?_
      refine lv_aload_n hx hb dX1_halvesWon_16 rfl (lv_at hl 0 rfl) ?_
      refine va_get (D := D) (ci := 1) (v := .ref (ad 17)) (C := RX1) (T := TX1) (N := 9) hx hb hts hiX1 hown hK hP 14 wXg14 rfl 6 (by decide) (hts (.fieldLink RX1 19 "ArcGuesser$Candidates" "founds" "[I") (List.mem_of_getElem? (i := 3) rfl)) (fun _ h9 => h9) rfl dX1_halvesWon_17 ?_
      refine lv_iload_n hx hb dX1_halvesWon_20 rfl (lv_at hl 2 rfl) ?_
      refine va_iald hx hb hK hP 17 0 wXg17 rfl hq.1 dX1_halvesWon_21 ?_
      have hq := hq.2
      refine va_lald hx hb hK hP 16 1 wXg16 rfl hq.1 dX1_halvesWon_22 ?_
      have hq := hq.2
      refine lv_lstore_n (lv' := [(3, .long (σ.2 16 ((σ.1 17 (v2).toNatClampNeg)).toNatClampNeg)), (0, .ref (ad 14)), (1, .int v1), (2, .int v2)]) hx hb dX1_halvesWon_23 rfl hl (by decide) rfl (fun ls hl => ?_)
      refine lv_iconst (v := (0 : Int32)) hx hb dX1_halvesWon_24 (by decide) ?_
      refine lv_istore (lv' := [(5, .int (0 : Int32)), (3, .long (σ.2 16 ((σ.1 17 (v2).toNatClampNeg)).toNatClampNeg)), (0, .ref (ad 14)), (1, .int v1), (2, .int v2)]) hx hb dX1_halvesWon_25 hl (by decide) rfl (fun ls hl => ?_)
      rw [hK27] at hq
      exact hq _ _ _ hP hD hS (lv_sub hl [2, 3, 4, 1, 0] rfl)
  have hk27 : ∀ (σ : Sto) (v1 : Int32) (v2 : Int32) (v3 : Int64) (v5 : Int32), X1_halvesWon_b27  K4 K27 Post σ v1 v2 v3 v5 → K27 σ v1 v2 v3 v5 := by
    intro σ v1 v2 v3 v5 hq
    rw [hK27]
    intro H locs ls hP hD hS hl
    unfold X1_halvesWon_b27 at hq
    refine lv_iload hx hb dX1_halvesWon_27 (lv_at hl 4 rfl) ?_
    refine lv_aload_n hx hb dX1_halvesWon_29 rfl (lv_at hl 0 rfl) ?_
    refine va_get (D := D) (ci := 1) (v := .int (σ.1 14 3)) (C := RX1) (T := TX1) (N := 9) hx hb hts hiX1 hown hK hP 14 wXg14 rfl 3 (by decide) (hts (.fieldLink RX1 39 "ArcGuesser$Candidates" "emptyTotal" "I") (List.mem_of_getElem? (i := 4) rfl)) (fun _ h9 => h9) rfl dX1_halvesWon_30 ?_
    refine lv_icmp_ge (tgt := 61) hx hb dX1_halvesWon_33 (by decide) (fun hc => ?_) (fun hc => ?_)
    · have hq := hq.1 hc
      refine lv_iinc (v := (v2 + (1 : Int32))) (lv' := [(2, .int (v2 + (1 : Int32))), (0, .ref (ad 14)), (1, .int v1), (3, .long v3), (5, .int v5)]) hx hb dX1_halvesWon_61 hl (k := 2) rfl (by rfl) (by decide) rfl (fun ls hl => ?_)
      refine lv_goto (tgt := 4) hx hb dX1_halvesWon_64 (by decide) ?_
      rw [hK4] at hq
      exact hq _ _ _ hP hD hS (lv_sub hl [1, 2, 0] rfl)
    · have hq := hq.2 hc
      refine lv_iload_n hx hb dX1_halvesWon_36 rfl (lv_at hl 1 rfl) ?_
      refine lv_lload_n hx hb dX1_halvesWon_37 rfl (lv_at hl 3 rfl) ?_
      refine lv_aload_n hx hb dX1_halvesWon_38 rfl (lv_at hl 0 rfl) ?_
      refine va_get (D := D) (ci := 1) (v := .ref (ad 16)) (C := RX1) (T := TX1) (N := 9) hx hb hts hiX1 hown hK hP 14 wXg14 rfl 5 (by decide) (hts (.fieldLink RX1 15 "ArcGuesser$Candidates" "mixes" "[J") (List.mem_of_getElem? (i := 2) rfl)) (fun _ h9 => h9) rfl dX1_halvesWon_39 ?_
      refine lv_aload_n hx hb dX1_halvesWon_42 rfl (lv_at hl 0 rfl) ?_
      refine va_get (D := D) (ci := 1) (v := .ref (ad 18)) (C := RX1) (T := TX1) (N := 9) hx hb hts hiX1 hown hK hP 14 wXg14 rfl 7 (by decide) (hts (.fieldLink RX1 22 "ArcGuesser$Candidates" "empties" "[I") (List.mem_of_getElem? (i := 5) rfl)) (fun _ h9 => h9) rfl dX1_halvesWon_43 ?_
      refine lv_iload hx hb dX1_halvesWon_46 (lv_at hl 4 rfl) ?_
      refine va_iald hx hb hK hP 18 0 wXg18 rfl hq.1 dX1_halvesWon_48 ?_
      have hq := hq.2
      refine va_lald hx hb hK hP 16 1 wXg16 rfl hq.1 dX1_halvesWon_49 ?_
      have hq := hq.2
      refine w_calli (va_runS (As := [.long v3, .long (σ.2 16 ((σ.1 18 (v5).toNatClampNeg)).toNatClampNeg)]) (rest := [.int v1]) ⟨hx, hb, hml, hown, hts⟩ (mtX1_halvesOf l D ad cA A σ v3 (σ.2 16 ((σ.1 18 (v5).toNatClampNeg)).toNatClampNeg) _ hq) (va_cwS 2 hts gX1_halvesWon_X1_halvesOf rfl rfl rfl (by decide +kernel) ⟨Nat.le_of_ble_eq_true rfl, Nat.le_of_ble_eq_true rfl⟩) ⟨stW_blind nwX_ok, stW_pass hA hS hN hK hP hD nwX_ok⟩ rfl rfl hl.1 rfl (lv_room (Nat.le_of_ble_eq_true rfl)) dX1_halvesWon_50 ⟨Nat.le_of_ble_eq_true rfl, Nat.le_of_ble_eq_true rfl⟩) hS (fun r1 σ1 H locs hq hP hD hS => ?_)
      refine lv_iadd hx hb dX1_halvesWon_53 ?_
      refine lv_istore_n (lv' := [(1, .int (v1 + r1)), (0, .ref (ad 14)), (2, .int v2), (3, .long v3), (5, .int v5)]) hx hb dX1_halvesWon_54 rfl hl (by decide) rfl (fun ls hl => ?_)
      refine lv_iinc (v := (v5 + (1 : Int32))) (lv' := [(5, .int (v5 + (1 : Int32))), (1, .int (v1 + r1)), (0, .ref (ad 14)), (2, .int v2), (3, .long v3)]) hx hb dX1_halvesWon_55 hl (k := 4) rfl (by rfl) (by decide) rfl (fun ls hl => ?_)
      refine lv_goto (tgt := 27) hx hb dX1_halvesWon_58 (by decide) ?_
      rw [hK27] at hq
      exact hq _ _ _ hP hD hS (lv_sub hl [2, 1, 3, 4, 0] rfl)
  have hq := hwp K4 K27 hk4 hk27
  refine lv_iconst (v := (0 : Int32)) hx hb dX1_halvesWon_0 (by decide) ?_
  refine lv_istore_n (lv' := [(1, .int (0 : Int32)), (0, .ref (ad 14))]) hx hb dX1_halvesWon_1 rfl hl (by decide) rfl (fun ls hl => ?_)
  refine lv_iconst (v := (0 : Int32)) hx hb dX1_halvesWon_2 (by decide) ?_
  refine lv_istore_n (lv' := [(2, .int (0 : Int32)), (1, .int (0 : Int32)), (0, .ref (ad 14))]) hx hb dX1_halvesWon_3 rfl hl (by decide) rfl (fun ls hl => ?_)
  rw [hK4] at hq
  exact hq _ _ _ hP hD hS (lv_sub hl [2, 1, 0] rfl)
/-! ArcGuesser$Draws.next()I -/
def X2_next_wp (σ : Sto)  (Post : Int32 → Sto → Prop) : Prop :=
  (Post (((((1664525 : Int32) * (σ.1 28 0)) + (1013904223 : Int32))).toUInt32 >>> (((8 : Int32)).toUInt32 &&& Int32.toUInt32 31)).toInt32 (sI σ 28 0 (((1664525 : Int32) * (σ.1 28 0)) + (1013904223 : Int32))))
set_option maxHeartbeats 4000000 in
set_option maxRecDepth 100000 in
theorem mtX2_next (l : Launch) (D : va_G) (ad : Nat → Nat) (cA : Nat → ClassId) (A : Nat → Prop) (σ : Sto)  (Post : Int32 → Sto → Prop) (hwp : X2_next_wp σ  Post) : Met l yX2_next wsX2_next ({ frames := 0, cells := 0, slots := 0, locals := 0 }) (va_Pc [.ref (ad 28)] (stW D (tyX cA) nwX (wX ad cA) A σ)) (va_Qi Post (enW D (wX ad cA) A) A) 0 0 A := by
  refine Met.ofW (cc := cX2_next) (maxL := 1) (ret := (some .int)) (by decide) rfl ?_
  intro p e s m args below meth c s₁ B hml hv
  obtain ⟨rfl, hA, hN, hP, hK, hD⟩ := hv
  have hx := B.exec
  have hb := B.bytes
  have hr := B.returns
  have hts := atoms_spec (ws := wsX2_next) B.pre
  have hown : s.vm.findClass RX2 = some m.cls := findClass_of_methodNamed B.named
  have hlocks := B.notSynchronized
  have hiX2 : ∀ w ∈ wsX20, w ∈ wsX2_next := by decide +kernel
  have hS : va_S A s.heap s.heap [] := va_S.rf
  have hl := lv_entry ([.ref (ad 28)]) (n := 1) (Nat.le_of_ble_eq_true rfl)
  rw [lg_entry_eq]
  generalize (lg_sl ([.ref (ad 28)]) ++ List.replicate (1 - (lg_sl ([.ref (ad 28)])).length) Slot.unset).toArray = ls at hl ⊢
  have hl : lv_has ls 1 [(0, .ref (ad 28))] := hl
  have hq := hwp
  unfold X2_next_wp at hq
  refine lv_aload_n hx hb dX2_next_0 rfl (lv_at hl 0 rfl) ?_
  refine lv_ldc (v := (1664525 : Int32)) hx hb hown (hts (.constant RX2 13 (1664525)) (List.mem_of_getElem? (i := 1) rfl)) dX2_next_1 ?_
  refine lv_aload_n hx hb dX2_next_3 rfl (lv_at hl 0 rfl) ?_
  refine va_get (D := D) (ci := 2) (v := .int (σ.1 28 0)) (C := RX2) (T := TX2) (N := 1) hx hb hts hiX2 hown hK hP 28 wXg28 rfl 0 (by decide) (hts (.fieldLink RX2 7 "ArcGuesser$Draws" "z" "I") (List.mem_of_getElem? (i := 2) rfl)) (fun _ h9 => h9) rfl dX2_next_4 ?_
  refine lv_imul hx hb dX2_next_7 ?_
  refine lv_ldc (v := (1013904223 : Int32)) hx hb hown (hts (.constant RX2 14 (1013904223)) (List.mem_of_getElem? (i := 3) rfl)) dX2_next_8 ?_
  refine lv_iadd hx hb dX2_next_10 ?_
  refine va_put (D := D) (ci := 2) (v := .int (((1664525 : Int32) * (σ.1 28 0)) + (1013904223 : Int32))) (ty := .int) (C := RX2) (T := TX2) (N := 1) hx hb hts hiX2 tyX2 tyX2_ok nmX2 hown hK hP hD hS 28 wXg28 rfl 0 (by decide) (hts (.fieldLink RX2 7 "ArcGuesser$Draws" "z" "I") (List.mem_of_getElem? (i := 2) rfl)) (fun _ h9 => h9) rfl (by decide +kernel) rfl rfl (Nat.le_of_ble_eq_true rfl) dX2_next_11 (fun H locs hP hD hS => ?_)
  have hP := wXfP28_0 hP
  have hD := wXfD28_0 hD
  refine lv_aload_n hx hb dX2_next_14 rfl (lv_at hl 0 rfl) ?_
  refine va_get (D := D) (ci := 2) (v := .int (((1664525 : Int32) * (σ.1 28 0)) + (1013904223 : Int32))) (C := RX2) (T := TX2) (N := 1) hx hb hts hiX2 hown hK hP 28 wXg28 rfl 0 (by decide) (hts (.fieldLink RX2 7 "ArcGuesser$Draws" "z" "I") (List.mem_of_getElem? (i := 2) rfl)) (fun _ h9 => h9) rfl dX2_next_15 ?_
  refine lv_bipush (v := (8 : Int32)) hx hb dX2_next_18 (by decide) ?_
  refine lv_iushr hx hb dX2_next_20 rfl ?_
  exact W.iret (v := (((((1664525 : Int32) * (σ.1 28 0)) + (1013904223 : Int32))).toUInt32 >>> (((8 : Int32)).toUInt32 &&& Int32.toUInt32 31)).toInt32) hx hb hr (fun t ht hW => ⟨⟨(((((1664525 : Int32) * (σ.1 28 0)) + (1013904223 : Int32))).toUInt32 >>> (((8 : Int32)).toUInt32 &&& Int32.toUInt32 31)).toInt32, (sI σ 28 0 (((1664525 : Int32) * (σ.1 28 0)) + (1013904223 : Int32))), rfl, hq, by rw [ht]; exact hP, hD⟩, hS.F ht⟩) hS.2.2 dX2_next_21
/-! ArcGuesser$Candidates.halvesWonByDraws(LArcGuesser$Draws;)I -/
def X1_halvesWonByDraws_b4  (K4 : Sto → Int32 → Int32 → Prop) (Post : Int32 → Sto → Prop) (σ : Sto) (v2 : Int32) (v3 : Int32) : Prop :=
  (((σ.1 14 2) ≤ v3 → (Post v2 σ)) ∧ (¬ (σ.1 14 2) ≤ v3 → (((σ.1 14 3) ≤ 0 → (Post v2 σ)) ∧ (¬ (σ.1 14 3) ≤ 0 → (X2_next_wp σ  (fun r1 σ1 => ((¬ (σ1.1 14 3) = 0) ∧ (vp_in (r1 - r1 / (σ1.1 14 3) * (σ1.1 14 3)) 132 ∧ (vp_in v3 132 ∧ (vp_in (σ1.1 17 (v3).toNatClampNeg) 132 ∧ (vp_in (σ1.1 18 ((r1 - r1 / (σ1.1 14 3) * (σ1.1 14 3))).toNatClampNeg) 132 ∧ (X1_halvesOf_wp σ1 (σ1.2 16 ((σ1.1 17 (v3).toNatClampNeg)).toNatClampNeg) (σ1.2 16 ((σ1.1 18 ((r1 - r1 / (σ1.1 14 3) * (σ1.1 14 3))).toNatClampNeg)).toNatClampNeg) (fun r2 σ2 => (K4 σ2 (v2 + r2) (v3 + (1 : Int32))))))))))))))))
def X1_halvesWonByDraws_wp (σ : Sto)  (Post : Int32 → Sto → Prop) : Prop := ∀ (K4 : Sto → Int32 → Int32 → Prop), (∀ (σ : Sto) (v2 : Int32) (v3 : Int32), X1_halvesWonByDraws_b4  K4 Post σ v2 v3 → K4 σ v2 v3) → 
  (K4 σ (0 : Int32) (0 : Int32))
set_option maxHeartbeats 4000000 in
set_option maxRecDepth 100000 in
theorem mtX1_halvesWonByDraws (l : Launch) (D : va_G) (ad : Nat → Nat) (cA : Nat → ClassId) (A : Nat → Prop) (σ : Sto)  (Post : Int32 → Sto → Prop) (hwp : X1_halvesWonByDraws_wp σ  Post) : Met l yX1_halvesWonByDraws wsX1_halvesWonByDraws ({ frames := 1, cells := 0, slots := 0, locals := 23 }) (va_Pc [.ref (ad 14), .ref (ad 28)] (stW D (tyX cA) nwX (wX ad cA) A σ)) (va_Qi Post (enW D (wX ad cA) A) A) 0 0 A := by
  refine Met.ofW (cc := cX1_halvesWonByDraws) (maxL := 5) (ret := (some .int)) (by decide) rfl ?_
  intro p e s m args below meth c s₁ B hml hv
  obtain ⟨rfl, hA, hN, hP, hK, hD⟩ := hv
  have hx := B.exec
  have hb := B.bytes
  have hr := B.returns
  have hts := atoms_spec (ws := wsX1_halvesWonByDraws) B.pre
  have hown : s.vm.findClass RX1 = some m.cls := findClass_of_methodNamed B.named
  have hlocks := B.notSynchronized
  have hiX1 : ∀ w ∈ wsX10, w ∈ wsX1_halvesWonByDraws := by decide +kernel
  have hS : va_S A s.heap s.heap [] := va_S.rf
  have hl := lv_entry ([.ref (ad 14), .ref (ad 28)]) (n := 5) (Nat.le_of_ble_eq_true rfl)
  rw [lg_entry_eq]
  generalize (lg_sl ([.ref (ad 14), .ref (ad 28)]) ++ List.replicate (5 - (lg_sl ([.ref (ad 14), .ref (ad 28)])).length) Slot.unset).toArray = ls at hl ⊢
  have hl : lv_has ls 5 [(0, .ref (ad 14)), (1, .ref (ad 28))] := hl
  obtain ⟨K4, hK4⟩ : ∃ K : Sto → Int32 → Int32 → Prop, K = fun (σ : Sto) (v2 : Int32) (v3 : Int32) => ∀ (H : Heap) (locs : List Loc) (ls : Array Slot), va_P D vwCl ((wX ad cA) σ) H → va_D A ((wX ad cA) σ) → va_S A s.heap H locs → lv_has ls 5 [(0, .ref (ad 14)), (1, .ref (ad 28)), (2, .int v2), (3, .int v3)] → W p l e (headSpec wsX1_halvesWonByDraws ({ frames := 1, cells := 0, slots := 0, locals := 23 })).room s m ([.ref (ad 14), .ref (ad 28)] : List Value).toArray below meth c H locs 0 0 (MQ below (va_Qi Post (enW D (wX ad cA) A) A) ([.ref (ad 14), .ref (ad 28)] : List Value).toArray s 0 0 A) (F0 m 4 ls []) := ⟨_, rfl⟩
  have hk4 : ∀ (σ : Sto) (v2 : Int32) (v3 : Int32), X1_halvesWonByDraws_b4  K4 Post σ v2 v3 → K4 σ v2 v3 := by
    intro σ v2 v3 hq
    rw [hK4]
    intro H locs ls hP hD hS hl
    unfold X1_halvesWonByDraws_b4 at hq
    refine lv_iload_n hx hb dX1_halvesWonByDraws_4 rfl (lv_at hl 3 rfl) ?_
    refine lv_aload_n hx hb dX1_halvesWonByDraws_5 rfl (lv_at hl 0 rfl) ?_
    refine va_get (D := D) (ci := 1) (v := .int (σ.1 14 2)) (C := RX1) (T := TX1) (N := 9) hx hb hts hiX1 hown hK hP 14 wXg14 rfl 2 (by decide) (hts (.fieldLink RX1 36 "ArcGuesser$Candidates" "foundTotal" "I") (List.mem_of_getElem? (i := 1) rfl)) (fun _ h9 => h9) rfl dX1_halvesWonByDraws_6 ?_
    refine lv_icmp_ge (tgt := 65) hx hb dX1_halvesWonByDraws_9 (by decide) (fun hc => ?_) (fun hc => ?_)
    · have hq := hq.1 hc
      refine lv_iload_n hx hb dX1_halvesWonByDraws_65 rfl (lv_at hl 2 rfl) ?_
      exact W.iret (v := v2) hx hb hr (fun t ht hW => ⟨⟨v2, σ, rfl, hq, by rw [ht]; exact hP, hD⟩, hS.F ht⟩) hS.2.2 dX1_halvesWonByDraws_66
    · have hq := hq.2 hc
      refine lv_aload_n hx hb dX1_halvesWonByDraws_12 rfl (lv_at hl 0 rfl) ?_
      refine va_get (D := D) (ci := 1) (v := .int (σ.1 14 3)) (C := RX1) (T := TX1) (N := 9) hx hb hts hiX1 hown hK hP 14 wXg14 rfl 3 (by decide) (hts (.fieldLink RX1 39 "ArcGuesser$Candidates" "emptyTotal" "I") (List.mem_of_getElem? (i := 2) rfl)) (fun _ h9 => h9) rfl dX1_halvesWonByDraws_13 ?_
      refine lv_if_le (tgt := 65) hx hb dX1_halvesWonByDraws_16 (by decide) (fun hc => ?_) (fun hc => ?_)
      · have hq := hq.1 hc
        refine lv_iload_n hx hb dX1_halvesWonByDraws_65 rfl (lv_at hl 2 rfl) ?_
        exact W.iret (v := v2) hx hb hr (fun t ht hW => ⟨⟨v2, σ, rfl, hq, by rw [ht]; exact hP, hD⟩, hS.F ht⟩) hS.2.2 dX1_halvesWonByDraws_66
      · have hq := hq.2 hc
        refine lv_aload_n hx hb dX1_halvesWonByDraws_19 rfl (lv_at hl 0 rfl) ?_
        refine va_get (D := D) (ci := 1) (v := .ref (ad 18)) (C := RX1) (T := TX1) (N := 9) hx hb hts hiX1 hown hK hP 14 wXg14 rfl 7 (by decide) (hts (.fieldLink RX1 22 "ArcGuesser$Candidates" "empties" "[I") (List.mem_of_getElem? (i := 3) rfl)) (fun _ h9 => h9) rfl dX1_halvesWonByDraws_20 ?_
        refine lv_aload_n hx hb dX1_halvesWonByDraws_23 rfl (lv_at hl 1 rfl) ?_
        refine w_calli (va_runVN (As := []) (rest := [.ref (ad 18)]) ⟨hx, hb, hml, hown, hts⟩ (mtX2_next l D ad cA A σ  _ hq) ⟨va_cnB 0 hts ggX1_halvesWonByDraws_X2_next rfl rfl rfl (hN (.methodLinkNest RX1 68 yX2_next "ArcGuesser") (List.mem_of_getElem? (i := 61) rfl)) (hts (.initialized RX2) (List.mem_of_getElem? (i := 7) rfl)) (by decide +kernel) ⟨Nat.le_of_ble_eq_true rfl, Nat.le_of_ble_eq_true rfl⟩, hts (.instanceMethod yX2_next) (List.mem_of_getElem? (i := 6) rfl), hts (.selects RX2 yX2_next yX2_next) (List.mem_of_getElem? (i := 8) rfl)⟩ ⟨stW_blind nwX_ok, va_recv hK hP (ci := 2) (q0 := 28) rfl wXg28, stW_pass hA hS hN hK hP hD nwX_ok⟩ rfl rfl hl.1 rfl (lv_room (Nat.le_of_ble_eq_true rfl)) dX1_halvesWonByDraws_24 ⟨Nat.le_of_ble_eq_true rfl, Nat.le_of_ble_eq_true rfl⟩) hS (fun r1 σ1 H locs hq hP hD hS => ?_)
        refine lv_aload_n hx hb dX1_halvesWonByDraws_27 rfl (lv_at hl 0 rfl) ?_
        refine va_get (D := D) (ci := 1) (v := .int (σ1.1 14 3)) (C := RX1) (T := TX1) (N := 9) hx hb hts hiX1 hown hK hP 14 wXg14 rfl 3 (by decide) (hts (.fieldLink RX1 39 "ArcGuesser$Candidates" "emptyTotal" "I") (List.mem_of_getElem? (i := 2) rfl)) (fun _ h9 => h9) rfl dX1_halvesWonByDraws_28 ?_
        refine lv_irem hx hb dX1_halvesWonByDraws_31 hq.1 ?_
        have hq := hq.2
        refine va_iald hx hb hK hP 18 0 wXg18 rfl hq.1 dX1_halvesWonByDraws_32 ?_
        have hq := hq.2
        refine lv_istore (lv' := [(4, .int (σ1.1 18 ((r1 - r1 / (σ1.1 14 3) * (σ1.1 14 3))).toNatClampNeg)), (0, .ref (ad 14)), (1, .ref (ad 28)), (2, .int v2), (3, .int v3)]) hx hb dX1_halvesWonByDraws_33 hl (by decide) rfl (fun ls hl => ?_)
        refine lv_iload_n hx hb dX1_halvesWonByDraws_35 rfl (lv_at hl 3 rfl) ?_
        refine lv_aload_n hx hb dX1_halvesWonByDraws_36 rfl (lv_at hl 1 rfl) ?_
        refine va_get (D := D) (ci := 1) (v := .ref (ad 16)) (C := RX1) (T := TX1) (N := 9) hx hb hts hiX1 hown hK hP 14 wXg14 rfl 5 (by decide) (hts (.fieldLink RX1 15 "ArcGuesser$Candidates" "mixes" "[J") (List.mem_of_getElem? (i := 4) rfl)) (fun _ h9 => h9) rfl dX1_halvesWonByDraws_37 ?_
        refine lv_aload_n hx hb dX1_halvesWonByDraws_40 rfl (lv_at hl 1 rfl) ?_
        refine va_get (D := D) (ci := 1) (v := .ref (ad 17)) (C := RX1) (T := TX1) (N := 9) hx hb hts hiX1 hown hK hP 14 wXg14 rfl 6 (by decide) (hts (.fieldLink RX1 19 "ArcGuesser$Candidates" "founds" "[I") (List.mem_of_getElem? (i := 5) rfl)) (fun _ h9 => h9) rfl dX1_halvesWonByDraws_41 ?_
        refine lv_iload_n hx hb dX1_halvesWonByDraws_44 rfl (lv_at hl 4 rfl) ?_
        refine va_iald hx hb hK hP 17 0 wXg17 rfl hq.1 dX1_halvesWonByDraws_45 ?_
        have hq := hq.2
        refine va_lald hx hb hK hP 16 1 wXg16 rfl hq.1 dX1_halvesWonByDraws_46 ?_
        have hq := hq.2
        refine lv_aload_n hx hb dX1_halvesWonByDraws_47 rfl (lv_at hl 1 rfl) ?_
        refine va_get (D := D) (ci := 1) (v := .ref (ad 16)) (C := RX1) (T := TX1) (N := 9) hx hb hts hiX1 hown hK hP 14 wXg14 rfl 5 (by decide) (hts (.fieldLink RX1 15 "ArcGuesser$Candidates" "mixes" "[J") (List.mem_of_getElem? (i := 4) rfl)) (fun _ h9 => h9) rfl dX1_halvesWonByDraws_48 ?_
        refine lv_iload hx hb dX1_halvesWonByDraws_51 (lv_at hl 0 rfl) ?_
        refine va_lald hx hb hK hP 16 1 wXg16 rfl hq.1 dX1_halvesWonByDraws_53 ?_
        have hq := hq.2
        refine w_calli (va_runS (As := [.long (σ1.2 16 ((σ1.1 17 (v3).toNatClampNeg)).toNatClampNeg), .long (σ1.2 16 ((σ1.1 18 ((r1 - r1 / (σ1.1 14 3) * (σ1.1 14 3))).toNatClampNeg)).toNatClampNeg)]) (rest := [.int v2]) ⟨hx, hb, hml, hown, hts⟩ (mtX1_halvesOf l D ad cA A σ1 (σ1.2 16 ((σ1.1 17 (v3).toNatClampNeg)).toNatClampNeg) (σ1.2 16 ((σ1.1 18 ((r1 - r1 / (σ1.1 14 3) * (σ1.1 14 3))).toNatClampNeg)).toNatClampNeg) _ hq) (va_cwS 2 hts gX1_halvesWonByDraws_X1_halvesOf rfl rfl rfl (by decide +kernel) ⟨Nat.le_of_ble_eq_true rfl, Nat.le_of_ble_eq_true rfl⟩) ⟨stW_blind nwX_ok, stW_pass hA hS hN hK hP hD nwX_ok⟩ rfl rfl hl.1 rfl (lv_room (Nat.le_of_ble_eq_true rfl)) dX1_halvesWonByDraws_54 ⟨Nat.le_of_ble_eq_true rfl, Nat.le_of_ble_eq_true rfl⟩) hS (fun r2 σ2 H locs hq hP hD hS => ?_)
        refine lv_iadd hx hb dX1_halvesWonByDraws_57 ?_
        refine lv_istore_n (lv' := [(2, .int (v2 + r2)), (4, .int (σ1.1 18 ((r1 - r1 / (σ1.1 14 3) * (σ1.1 14 3))).toNatClampNeg)), (0, .ref (ad 14)), (1, .ref (ad 28)), (3, .int v3)]) hx hb dX1_halvesWonByDraws_58 rfl hl (by decide) rfl (fun ls hl => ?_)
        refine lv_iinc (v := (v3 + (1 : Int32))) (lv' := [(3, .int (v3 + (1 : Int32))), (2, .int (v2 + r2)), (4, .int (σ1.1 18 ((r1 - r1 / (σ1.1 14 3) * (σ1.1 14 3))).toNatClampNeg)), (0, .ref (ad 14)), (1, .ref (ad 28))]) hx hb dX1_halvesWonByDraws_59 hl (k := 4) rfl (by rfl) (by decide) rfl (fun ls hl => ?_)
        refine lv_goto (tgt := 4) hx hb dX1_halvesWonByDraws_62 (by decide) ?_
        rw [hK4] at hq
        exact hq _ _ _ hP hD hS (lv_sub hl [3, 4, 1, 0] rfl)
  have hq := hwp K4 hk4
  refine lv_iconst (v := (0 : Int32)) hx hb dX1_halvesWonByDraws_0 (by decide) ?_
  refine lv_istore_n (lv' := [(2, .int (0 : Int32)), (0, .ref (ad 14)), (1, .ref (ad 28))]) hx hb dX1_halvesWonByDraws_1 rfl hl (by decide) rfl (fun ls hl => ?_)
  refine lv_iconst (v := (0 : Int32)) hx hb dX1_halvesWonByDraws_2 (by decide) ?_
  refine lv_istore_n (lv' := [(3, .int (0 : Int32)), (2, .int (0 : Int32)), (0, .ref (ad 14)), (1, .ref (ad 28))]) hx hb dX1_halvesWonByDraws_3 rfl hl (by decide) rfl (fun ls hl => ?_)
  rw [hK4] at hq
  exact hq _ _ _ hP hD hS (lv_sub hl [2, 3, 1, 0] rfl)
/-! ArcGuesser$Candidates.mixBy(LArcGuesser$Mix;)V -/
def X1_mixBy_b2  (K2 : Sto → Int32 → Prop) (Post : Sto → Prop) (σ : Sto) (v2 : Int32) : Prop :=
  (((σ.1 14 1) ≤ v2 → (Post σ)) ∧ (¬ (σ.1 14 1) ≤ v2 → (vp_in v2 132 ∧ (X5_mixOf_wp σ (σ.1 15 (v2).toNatClampNeg) (fun r1 σ1 => (vp_in v2 132 ∧ (K2 (sJ σ1 16 (v2).toNatClampNeg r1) (v2 + (1 : Int32)))))))))
def X1_mixBy_wp (σ : Sto)  (Post : Sto → Prop) : Prop := ∀ (K2 : Sto → Int32 → Prop), (∀ (σ : Sto) (v2 : Int32), X1_mixBy_b2  K2 Post σ v2 → K2 σ v2) → 
  (K2 σ (0 : Int32))
set_option maxHeartbeats 4000000 in
set_option maxRecDepth 100000 in
theorem mtX1_mixBy (l : Launch) (D : va_G) (ad : Nat → Nat) (cA : Nat → ClassId) (A : Nat → Prop) (σ : Sto)  (Post : Sto → Prop) (hwp : X1_mixBy_wp σ  Post) : Met l yX1_mixBy wsX1_mixBy ({ frames := 5, cells := 0, slots := 0, locals := 116 }) (va_Pc [.ref (ad 14), .ref (ad 12)] (stW D (tyX cA) nwX (wX ad cA) A σ)) (va_Qv Post (enW D (wX ad cA) A) A) 0 0 A := by
  refine Met.ofW (cc := cX1_mixBy) (maxL := 3) (ret := none) (by decide) rfl ?_
  intro p e s m args below meth c s₁ B hml hv
  obtain ⟨rfl, hA, hN, hP, hK, hD⟩ := hv
  have hx := B.exec
  have hb := B.bytes
  have hr := B.returns
  have hts := atoms_spec (ws := wsX1_mixBy) B.pre
  have hown : s.vm.findClass RX1 = some m.cls := findClass_of_methodNamed B.named
  have hlocks := B.notSynchronized
  have hiX1 : ∀ w ∈ wsX10, w ∈ wsX1_mixBy := by decide +kernel
  have hS : va_S A s.heap s.heap [] := va_S.rf
  have hl := lv_entry ([.ref (ad 14), .ref (ad 12)]) (n := 3) (Nat.le_of_ble_eq_true rfl)
  rw [lg_entry_eq]
  generalize (lg_sl ([.ref (ad 14), .ref (ad 12)]) ++ List.replicate (3 - (lg_sl ([.ref (ad 14), .ref (ad 12)])).length) Slot.unset).toArray = ls at hl ⊢
  have hl : lv_has ls 3 [(0, .ref (ad 14)), (1, .ref (ad 12))] := hl
  obtain ⟨K2, hK2⟩ : ∃ K : Sto → Int32 → Prop, K = fun (σ : Sto) (v2 : Int32) => ∀ (H : Heap) (locs : List Loc) (ls : Array Slot), va_P D vwCl ((wX ad cA) σ) H → va_D A ((wX ad cA) σ) → va_S A s.heap H locs → lv_has ls 3 [(0, .ref (ad 14)), (1, .ref (ad 12)), (2, .int v2)] → W p l e (headSpec wsX1_mixBy ({ frames := 5, cells := 0, slots := 0, locals := 116 })).room s m ([.ref (ad 14), .ref (ad 12)] : List Value).toArray below meth c H locs 0 0 (MQ below (va_Qv Post (enW D (wX ad cA) A) A) ([.ref (ad 14), .ref (ad 12)] : List Value).toArray s 0 0 A) (F0 m 2 ls []) := ⟨_, rfl⟩
  have hk2 : ∀ (σ : Sto) (v2 : Int32), X1_mixBy_b2  K2 Post σ v2 → K2 σ v2 := by
    intro σ v2 hq
    rw [hK2]
    intro H locs ls hP hD hS hl
    unfold X1_mixBy_b2 at hq
    refine lv_iload_n hx hb dX1_mixBy_2 rfl (lv_at hl 2 rfl) ?_
    refine lv_aload_n hx hb dX1_mixBy_3 rfl (lv_at hl 0 rfl) ?_
    refine va_get (D := D) (ci := 1) (v := .int (σ.1 14 1)) (C := RX1) (T := TX1) (N := 9) hx hb hts hiX1 hown hK hP 14 wXg14 rfl 1 (by decide) (hts (.fieldLink RX1 32 "ArcGuesser$Candidates" "total" "I") (List.mem_of_getElem? (i := 1) rfl)) (fun _ h9 => h9) rfl dX1_mixBy_4 ?_
    refine lv_icmp_ge (tgt := 32) hx hb dX1_mixBy_7 (by decide) (fun hc => ?_) (fun hc => ?_)
    · have hq := hq.1 hc
      exact W.vret hx hb hr (fun t ht hW => ⟨⟨σ, rfl, hq, by rw [ht]; exact hP, hD⟩, hS.F ht⟩) hS.2.2 dX1_mixBy_32
    · have hq := hq.2 hc
      refine lv_aload_n hx hb dX1_mixBy_10 rfl (lv_at hl 0 rfl) ?_
      refine va_get (D := D) (ci := 1) (v := .ref (ad 16)) (C := RX1) (T := TX1) (N := 9) hx hb hts hiX1 hown hK hP 14 wXg14 rfl 5 (by decide) (hts (.fieldLink RX1 15 "ArcGuesser$Candidates" "mixes" "[J") (List.mem_of_getElem? (i := 2) rfl)) (fun _ h9 => h9) rfl dX1_mixBy_11 ?_
      refine lv_iload_n hx hb dX1_mixBy_14 rfl (lv_at hl 2 rfl) ?_
      refine lv_aload_n hx hb dX1_mixBy_15 rfl (lv_at hl 1 rfl) ?_
      refine lv_aload_n hx hb dX1_mixBy_16 rfl (lv_at hl 0 rfl) ?_
      refine va_get (D := D) (ci := 1) (v := .ref (ad 15)) (C := RX1) (T := TX1) (N := 9) hx hb hts hiX1 hown hK hP 14 wXg14 rfl 4 (by decide) (hts (.fieldLink RX1 9 "ArcGuesser$Candidates" "pairs" "[I") (List.mem_of_getElem? (i := 3) rfl)) (fun _ h9 => h9) rfl dX1_mixBy_17 ?_
      refine lv_iload_n hx hb dX1_mixBy_20 rfl (lv_at hl 2 rfl) ?_
      refine va_iald hx hb hK hP 15 0 wXg15 rfl hq.1 dX1_mixBy_21 ?_
      have hq := hq.2
      refine w_calll (va_runVN (As := [.int (σ.1 15 (v2).toNatClampNeg)]) (rest := [.int v2, .ref (ad 16)]) ⟨hx, hb, hml, hown, hts⟩ (mtX5_mixOf l D ad cA A σ (σ.1 15 (v2).toNatClampNeg) _ hq) ⟨va_cnB 1 hts ggX1_mixBy_X5_mixOf rfl rfl rfl (hN (.methodLinkNest RX1 54 yX5_mixOf "ArcGuesser") (List.mem_of_getElem? (i := 60) rfl)) (hts (.initialized RX5) (List.mem_of_getElem? (i := 5) rfl)) (by decide +kernel) ⟨Nat.le_of_ble_eq_true rfl, Nat.le_of_ble_eq_true rfl⟩, hts (.instanceMethod yX5_mixOf) (List.mem_of_getElem? (i := 4) rfl), hts (.selects RX5 yX5_mixOf yX5_mixOf) (List.mem_of_getElem? (i := 6) rfl)⟩ ⟨stW_blind nwX_ok, va_recv hK hP (ci := 5) (q0 := 12) rfl wXg12, stW_pass hA hS hN hK hP hD nwX_ok⟩ rfl rfl hl.1 rfl (lv_room (Nat.le_of_ble_eq_true rfl)) dX1_mixBy_22 ⟨Nat.le_of_ble_eq_true rfl, Nat.le_of_ble_eq_true rfl⟩) hS (fun r1 σ1 H locs hq hP hD hS => ?_)
      refine va_last hx hb hK hP hD hS 16 1 wXg16 rfl hq.1 dX1_mixBy_25 (fun H locs hP hD hS => ?_)
      have hP := wXsP16 hP
      have hD := wXsD16 hD
      have hq := hq.2
      refine lv_iinc (v := (v2 + (1 : Int32))) (lv' := [(2, .int (v2 + (1 : Int32))), (0, .ref (ad 14)), (1, .ref (ad 12))]) hx hb dX1_mixBy_26 hl (k := 2) rfl (by rfl) (by decide) rfl (fun ls hl => ?_)
      refine lv_goto (tgt := 2) hx hb dX1_mixBy_29 (by decide) ?_
      rw [hK2] at hq
      exact hq _ _ _ hP hD hS (lv_sub hl [1, 2, 0] rfl)
  have hq := hwp K2 hk2
  refine lv_iconst (v := (0 : Int32)) hx hb dX1_mixBy_0 (by decide) ?_
  refine lv_istore_n (lv' := [(2, .int (0 : Int32)), (0, .ref (ad 14)), (1, .ref (ad 12))]) hx hb dX1_mixBy_1 rfl hl (by decide) rfl (fun ls hl => ?_)
  rw [hK2] at hq
  exact hq _ _ _ hP hD hS (lv_sub hl [1, 2, 0] rfl)
/-! ArcGuesser$Candidates.placeOfPair(I)I -/
def X1_placeOfPair_b2 (p1 : Int32) (K2 : Sto → Int32 → Prop) (Post : Int32 → Sto → Prop) (σ : Sto) (v2 : Int32) : Prop :=
  (((σ.1 14 1) ≤ v2 → (Post (-3 : Int32) σ)) ∧ (¬ (σ.1 14 1) ≤ v2 → (X1_pairAtPlace_wp σ v2 (fun r1 σ1 => ((¬ r1 = p1 → (K2 σ1 (v2 + (1 : Int32)))) ∧ (r1 = p1 → (Post v2 σ1)))))))
def X1_placeOfPair_wp (σ : Sto) (p1 : Int32) (Post : Int32 → Sto → Prop) : Prop := ∀ (K2 : Sto → Int32 → Prop), (∀ (σ : Sto) (v2 : Int32), X1_placeOfPair_b2 p1 K2 Post σ v2 → K2 σ v2) → 
  (K2 σ (0 : Int32))
set_option maxHeartbeats 4000000 in
set_option maxRecDepth 100000 in
theorem mtX1_placeOfPair (l : Launch) (D : va_G) (ad : Nat → Nat) (cA : Nat → ClassId) (A : Nat → Prop) (σ : Sto) (p1 : Int32) (Post : Int32 → Sto → Prop) (hwp : X1_placeOfPair_wp σ p1 Post) : Met l yX1_placeOfPair wsX1_placeOfPair ({ frames := 1, cells := 0, slots := 0, locals := 21 }) (va_Pc [.ref (ad 14), .int p1] (stW D (tyX cA) nwX (wX ad cA) A σ)) (va_Qi Post (enW D (wX ad cA) A) A) 0 0 A := by
  refine Met.ofW (cc := cX1_placeOfPair) (maxL := 3) (ret := (some .int)) (by decide) rfl ?_
  intro p e s m args below meth c s₁ B hml hv
  obtain ⟨rfl, hA, hN, hP, hK, hD⟩ := hv
  have hx := B.exec
  have hb := B.bytes
  have hr := B.returns
  have hts := atoms_spec (ws := wsX1_placeOfPair) B.pre
  have hown : s.vm.findClass RX1 = some m.cls := findClass_of_methodNamed B.named
  have hlocks := B.notSynchronized
  have hiX1 : ∀ w ∈ wsX10, w ∈ wsX1_placeOfPair := by decide +kernel
  have hS : va_S A s.heap s.heap [] := va_S.rf
  have hl := lv_entry ([.ref (ad 14), .int p1]) (n := 3) (Nat.le_of_ble_eq_true rfl)
  rw [lg_entry_eq]
  generalize (lg_sl ([.ref (ad 14), .int p1]) ++ List.replicate (3 - (lg_sl ([.ref (ad 14), .int p1])).length) Slot.unset).toArray = ls at hl ⊢
  have hl : lv_has ls 3 [(0, .ref (ad 14)), (1, .int p1)] := hl
  obtain ⟨K2, hK2⟩ : ∃ K : Sto → Int32 → Prop, K = fun (σ : Sto) (v2 : Int32) => ∀ (H : Heap) (locs : List Loc) (ls : Array Slot), va_P D vwCl ((wX ad cA) σ) H → va_D A ((wX ad cA) σ) → va_S A s.heap H locs → lv_has ls 3 [(0, .ref (ad 14)), (1, .int p1), (2, .int v2)] → W p l e (headSpec wsX1_placeOfPair ({ frames := 1, cells := 0, slots := 0, locals := 21 })).room s m ([.ref (ad 14), .int p1] : List Value).toArray below meth c H locs 0 0 (MQ below (va_Qi Post (enW D (wX ad cA) A) A) ([.ref (ad 14), .int p1] : List Value).toArray s 0 0 A) (F0 m 2 ls []) := ⟨_, rfl⟩
  have hk2 : ∀ (σ : Sto) (v2 : Int32), X1_placeOfPair_b2 p1 K2 Post σ v2 → K2 σ v2 := by
    intro σ v2 hq
    rw [hK2]
    intro H locs ls hP hD hS hl
    unfold X1_placeOfPair_b2 at hq
    refine lv_iload_n hx hb dX1_placeOfPair_2 rfl (lv_at hl 2 rfl) ?_
    refine lv_aload_n hx hb dX1_placeOfPair_3 rfl (lv_at hl 0 rfl) ?_
    refine va_get (D := D) (ci := 1) (v := .int (σ.1 14 1)) (C := RX1) (T := TX1) (N := 9) hx hb hts hiX1 hown hK hP 14 wXg14 rfl 1 (by decide) (hts (.fieldLink RX1 32 "ArcGuesser$Candidates" "total" "I") (List.mem_of_getElem? (i := 1) rfl)) (fun _ h9 => h9) rfl dX1_placeOfPair_4 ?_
    refine lv_icmp_ge (tgt := 27) hx hb dX1_placeOfPair_7 (by decide) (fun hc => ?_) (fun hc => ?_)
    · have hq := hq.1 hc
      refine lv_bipush (v := (-3 : Int32)) hx hb dX1_placeOfPair_27 (by decide) ?_
      exact W.iret (v := (-3 : Int32)) hx hb hr (fun t ht hW => ⟨⟨(-3 : Int32), σ, rfl, hq, by rw [ht]; exact hP, hD⟩, hS.F ht⟩) hS.2.2 dX1_placeOfPair_29
    · have hq := hq.2 hc
      refine lv_aload_n hx hb dX1_placeOfPair_10 rfl (lv_at hl 0 rfl) ?_
      refine lv_iload_n hx hb dX1_placeOfPair_11 rfl (lv_at hl 2 rfl) ?_
      refine w_calli (va_runV (As := [.int v2]) (rest := []) ⟨hx, hb, hml, hown, hts⟩ (mtX1_pairAtPlace l D ad cA A σ v2 _ hq) (cwV 1 hts gX1_placeOfPair_X1_pairAtPlace rfl rfl rfl (by decide +kernel) ⟨Nat.le_of_ble_eq_true rfl, Nat.le_of_ble_eq_true rfl⟩) ⟨stW_blind nwX_ok, va_recv hK hP (ci := 1) (q0 := 14) rfl wXg14, stW_pass hA hS hN hK hP hD nwX_ok⟩ rfl rfl hl.1 rfl (lv_room (Nat.le_of_ble_eq_true rfl)) dX1_placeOfPair_12 ⟨Nat.le_of_ble_eq_true rfl, Nat.le_of_ble_eq_true rfl⟩) hS (fun r1 σ1 H locs hq hP hD hS => ?_)
      refine lv_iload_n hx hb dX1_placeOfPair_15 rfl (lv_at hl 1 rfl) ?_
      refine lv_icmp_ne (tgt := 21) hx hb dX1_placeOfPair_16 (by decide) (fun hc => ?_) (fun hc => ?_)
      · have hq := hq.1 hc
        refine lv_iinc (v := (v2 + (1 : Int32))) (lv' := [(2, .int (v2 + (1 : Int32))), (0, .ref (ad 14)), (1, .int p1)]) hx hb dX1_placeOfPair_21 hl (k := 2) rfl (by rfl) (by decide) rfl (fun ls hl => ?_)
        refine lv_goto (tgt := 2) hx hb dX1_placeOfPair_24 (by decide) ?_
        rw [hK2] at hq
        exact hq _ _ _ hP hD hS (lv_sub hl [1, 2, 0] rfl)
      · have hq := hq.2 hc
        refine lv_iload_n hx hb dX1_placeOfPair_19 rfl (lv_at hl 2 rfl) ?_
        exact W.iret (v := v2) hx hb hr (fun t ht hW => ⟨⟨v2, σ1, rfl, hq, by rw [ht]; exact hP, hD⟩, hS.F ht⟩) hS.2.2 dX1_placeOfPair_20
  have hq := hwp K2 hk2
  refine lv_iconst (v := (0 : Int32)) hx hb dX1_placeOfPair_0 (by decide) ?_
  refine lv_istore_n (lv' := [(2, .int (0 : Int32)), (0, .ref (ad 14)), (1, .int p1)]) hx hb dX1_placeOfPair_1 rfl hl (by decide) rfl (fun ls hl => ?_)
  rw [hK2] at hq
  exact hq _ _ _ hP hD hS (lv_sub hl [1, 2, 0] rfl)
/-! ArcGuesser$Candidates.putInOrder()V -/
def X1_putInOrder_b2  (K2 : Sto → Int32 → Prop) (K12 : Sto → Int32 → Int32 → Prop) (Post : Sto → Prop) (σ : Sto) (v1 : Int32) : Prop :=
  (((σ.1 14 1) ≤ v1 → (Post σ)) ∧ (¬ (σ.1 14 1) ≤ v1 → (K12 σ v1 v1)))
def X1_putInOrder_b12  (K2 : Sto → Int32 → Prop) (K12 : Sto → Int32 → Int32 → Prop) (Post : Sto → Prop) (σ : Sto) (v1 : Int32) (v2 : Int32) : Prop :=
  ((v2 ≤ 0 → (vp_in v2 132 ∧ (K2 (sI σ 19 (v2).toNatClampNeg v1) (v1 + (1 : Int32))))) ∧ (¬ v2 ≤ 0 → (vp_in (v2 - (1 : Int32)) 132 ∧ (vp_in (σ.1 19 ((v2 - (1 : Int32))).toNatClampNeg) 132 ∧ (vp_in v1 132 ∧ ((0 ≤ (lg_cmp (σ.2 16 ((σ.1 19 ((v2 - (1 : Int32))).toNatClampNeg)).toNatClampNeg) (σ.2 16 (v1).toNatClampNeg)) → (vp_in v2 132 ∧ (K2 (sI σ 19 (v2).toNatClampNeg v1) (v1 + (1 : Int32))))) ∧ (¬ 0 ≤ (lg_cmp (σ.2 16 ((σ.1 19 ((v2 - (1 : Int32))).toNatClampNeg)).toNatClampNeg) (σ.2 16 (v1).toNatClampNeg)) → (vp_in (v2 - (1 : Int32)) 132 ∧ (vp_in v2 132 ∧ (K12 (sI σ 19 (v2).toNatClampNeg (σ.1 19 ((v2 - (1 : Int32))).toNatClampNeg)) v1 (v2 + (-1 : Int32))))))))))))
def X1_putInOrder_wp (σ : Sto)  (Post : Sto → Prop) : Prop := ∀ (K2 : Sto → Int32 → Prop) (K12 : Sto → Int32 → Int32 → Prop), (∀ (σ : Sto) (v1 : Int32), X1_putInOrder_b2  K2 K12 Post σ v1 → K2 σ v1) → (∀ (σ : Sto) (v1 : Int32) (v2 : Int32), X1_putInOrder_b12  K2 K12 Post σ v1 v2 → K12 σ v1 v2) → 
  (K2 σ (0 : Int32))
set_option maxHeartbeats 4000000 in
set_option maxRecDepth 100000 in
theorem mtX1_putInOrder (l : Launch) (D : va_G) (ad : Nat → Nat) (cA : Nat → ClassId) (A : Nat → Prop) (σ : Sto)  (Post : Sto → Prop) (hwp : X1_putInOrder_wp σ  Post) : Met l yX1_putInOrder wsX1_putInOrder ({ frames := 0, cells := 0, slots := 0, locals := 0 }) (va_Pc [.ref (ad 14)] (stW D (tyX cA) nwX (wX ad cA) A σ)) (va_Qv Post (enW D (wX ad cA) A) A) 0 0 A := by
  refine Met.ofW (cc := cX1_putInOrder) (maxL := 3) (ret := none) (by decide) rfl ?_
  intro p e s m args below meth c s₁ B hml hv
  obtain ⟨rfl, hA, hN, hP, hK, hD⟩ := hv
  have hx := B.exec
  have hb := B.bytes
  have hr := B.returns
  have hts := atoms_spec (ws := wsX1_putInOrder) B.pre
  have hown : s.vm.findClass RX1 = some m.cls := findClass_of_methodNamed B.named
  have hlocks := B.notSynchronized
  have hiX1 : ∀ w ∈ wsX10, w ∈ wsX1_putInOrder := by decide +kernel
  have hS : va_S A s.heap s.heap [] := va_S.rf
  have hl := lv_entry ([.ref (ad 14)]) (n := 3) (Nat.le_of_ble_eq_true rfl)
  rw [lg_entry_eq]
  generalize (lg_sl ([.ref (ad 14)]) ++ List.replicate (3 - (lg_sl ([.ref (ad 14)])).length) Slot.unset).toArray = ls at hl ⊢
  have hl : lv_has ls 3 [(0, .ref (ad 14))] := hl
  obtain ⟨K2, hK2⟩ : ∃ K : Sto → Int32 → Prop, K = fun (σ : Sto) (v1 : Int32) => ∀ (H : Heap) (locs : List Loc) (ls : Array Slot), va_P D vwCl ((wX ad cA) σ) H → va_D A ((wX ad cA) σ) → va_S A s.heap H locs → lv_has ls 3 [(0, .ref (ad 14)), (1, .int v1)] → W p l e (headSpec wsX1_putInOrder ({ frames := 0, cells := 0, slots := 0, locals := 0 })).room s m ([.ref (ad 14)] : List Value).toArray below meth c H locs 0 0 (MQ below (va_Qv Post (enW D (wX ad cA) A) A) ([.ref (ad 14)] : List Value).toArray s 0 0 A) (F0 m 2 ls []) := ⟨_, rfl⟩
  obtain ⟨K12, hK12⟩ : ∃ K : Sto → Int32 → Int32 → Prop, K = fun (σ : Sto) (v1 : Int32) (v2 : Int32) => ∀ (H : Heap) (locs : List Loc) (ls : Array Slot), va_P D vwCl ((wX ad cA) σ) H → va_D A ((wX ad cA) σ) → va_S A s.heap H locs → lv_has ls 3 [(0, .ref (ad 14)), (1, .int v1), (2, .int v2)] → W p l e (headSpec wsX1_putInOrder ({ frames := 0, cells := 0, slots := 0, locals := 0 })).room s m ([.ref (ad 14)] : List Value).toArray below meth c H locs 0 0 (MQ below (va_Qv Post (enW D (wX ad cA) A) A) ([.ref (ad 14)] : List Value).toArray s 0 0 A) (F0 m 12 ls []) := ⟨_, rfl⟩
  have hk2 : ∀ (σ : Sto) (v1 : Int32), X1_putInOrder_b2  K2 K12 Post σ v1 → K2 σ v1 := by
    intro σ v1 hq
    rw [hK2]
    intro H locs ls hP hD hS hl
    unfold X1_putInOrder_b2 at hq
    refine lv_iload_n hx hb dX1_putInOrder_2 rfl (lv_at hl 1 rfl) ?_
    refine lv_aload_n hx hb dX1_putInOrder_3 rfl (lv_at hl 0 rfl) ?_
    refine va_get (D := D) (ci := 1) (v := .int (σ.1 14 1)) (C := RX1) (T := TX1) (N := 9) hx hb hts hiX1 hown hK hP 14 wXg14 rfl 1 (by decide) (hts (.fieldLink RX1 32 "ArcGuesser$Candidates" "total" "I") (List.mem_of_getElem? (i := 1) rfl)) (fun _ h9 => h9) rfl dX1_putInOrder_4 ?_
    refine lv_icmp_ge (tgt := 72) hx hb dX1_putInOrder_7 (by decide) (fun hc => ?_) (fun hc => ?_)
    · have hq := hq.1 hc
      exact W.vret hx hb hr (fun t ht hW => ⟨⟨σ, rfl, hq, by rw [ht]; exact hP, hD⟩, hS.F ht⟩) hS.2.2 dX1_putInOrder_72
    · have hq := hq.2 hc
      refine lv_iload_n hx hb dX1_putInOrder_10 rfl (lv_at hl 1 rfl) ?_
      refine lv_istore_n (lv' := [(2, .int v1), (0, .ref (ad 14)), (1, .int v1)]) hx hb dX1_putInOrder_11 rfl hl (by decide) rfl (fun ls hl => ?_)
      rw [hK12] at hq
      exact hq _ _ _ hP hD hS (lv_sub hl [1, 2, 0] rfl)
  have hk12 : ∀ (σ : Sto) (v1 : Int32) (v2 : Int32), X1_putInOrder_b12  K2 K12 Post σ v1 v2 → K12 σ v1 v2 := by
    intro σ v1 v2 hq
    rw [hK12]
    intro H locs ls hP hD hS hl
    unfold X1_putInOrder_b12 at hq
    refine lv_iload_n hx hb dX1_putInOrder_12 rfl (lv_at hl 2 rfl) ?_
    refine lv_if_le (tgt := 59) hx hb dX1_putInOrder_13 (by decide) (fun hc => ?_) (fun hc => ?_)
    · have hq := hq.1 hc
      refine lv_aload_n hx hb dX1_putInOrder_59 rfl (lv_at hl 0 rfl) ?_
      refine va_get (D := D) (ci := 1) (v := .ref (ad 19)) (C := RX1) (T := TX1) (N := 9) hx hb hts hiX1 hown hK hP 14 wXg14 rfl 8 (by decide) (hts (.fieldLink RX1 25 "ArcGuesser$Candidates" "order" "[I") (List.mem_of_getElem? (i := 3) rfl)) (fun _ h9 => h9) rfl dX1_putInOrder_60 ?_
      refine lv_iload_n hx hb dX1_putInOrder_63 rfl (lv_at hl 2 rfl) ?_
      refine lv_iload_n hx hb dX1_putInOrder_64 rfl (lv_at hl 1 rfl) ?_
      refine va_iast hx hb hK hP hD hS 19 0 wXg19 rfl hq.1 dX1_putInOrder_65 (fun H locs hP hD hS => ?_)
      have hP := wXsP19 hP
      have hD := wXsD19 hD
      have hq := hq.2
      refine lv_iinc (v := (v1 + (1 : Int32))) (lv' := [(1, .int (v1 + (1 : Int32))), (0, .ref (ad 14)), (2, .int v2)]) hx hb dX1_putInOrder_66 hl (k := 1) rfl (by rfl) (by decide) rfl (fun ls hl => ?_)
      refine lv_goto (tgt := 2) hx hb dX1_putInOrder_69 (by decide) ?_
      rw [hK2] at hq
      exact hq _ _ _ hP hD hS (lv_sub hl [1, 0] rfl)
    · have hq := hq.2 hc
      refine lv_aload_n hx hb dX1_putInOrder_16 rfl (lv_at hl 0 rfl) ?_
      refine va_get (D := D) (ci := 1) (v := .ref (ad 16)) (C := RX1) (T := TX1) (N := 9) hx hb hts hiX1 hown hK hP 14 wXg14 rfl 5 (by decide) (hts (.fieldLink RX1 15 "ArcGuesser$Candidates" "mixes" "[J") (List.mem_of_getElem? (i := 2) rfl)) (fun _ h9 => h9) rfl dX1_putInOrder_17 ?_
      refine lv_aload_n hx hb dX1_putInOrder_20 rfl (lv_at hl 0 rfl) ?_
      refine va_get (D := D) (ci := 1) (v := .ref (ad 19)) (C := RX1) (T := TX1) (N := 9) hx hb hts hiX1 hown hK hP 14 wXg14 rfl 8 (by decide) (hts (.fieldLink RX1 25 "ArcGuesser$Candidates" "order" "[I") (List.mem_of_getElem? (i := 3) rfl)) (fun _ h9 => h9) rfl dX1_putInOrder_21 ?_
      refine lv_iload_n hx hb dX1_putInOrder_24 rfl (lv_at hl 2 rfl) ?_
      refine lv_iconst (v := (1 : Int32)) hx hb dX1_putInOrder_25 (by decide) ?_
      refine lv_isub hx hb dX1_putInOrder_26 ?_
      refine va_iald hx hb hK hP 19 0 wXg19 rfl hq.1 dX1_putInOrder_27 ?_
      have hq := hq.2
      refine va_lald hx hb hK hP 16 1 wXg16 rfl hq.1 dX1_putInOrder_28 ?_
      have hq := hq.2
      refine lv_aload_n hx hb dX1_putInOrder_29 rfl (lv_at hl 0 rfl) ?_
      refine va_get (D := D) (ci := 1) (v := .ref (ad 16)) (C := RX1) (T := TX1) (N := 9) hx hb hts hiX1 hown hK hP 14 wXg14 rfl 5 (by decide) (hts (.fieldLink RX1 15 "ArcGuesser$Candidates" "mixes" "[J") (List.mem_of_getElem? (i := 2) rfl)) (fun _ h9 => h9) rfl dX1_putInOrder_30 ?_
      refine lv_iload_n hx hb dX1_putInOrder_33 rfl (lv_at hl 1 rfl) ?_
      refine va_lald hx hb hK hP 16 1 wXg16 rfl hq.1 dX1_putInOrder_34 ?_
      have hq := hq.2
      refine W.lcmp hx hb dX1_putInOrder_35 ?_
      refine lv_if_ge (tgt := 59) hx hb dX1_putInOrder_36 (by decide) (fun hc => ?_) (fun hc => ?_)
      · have hq := hq.1 hc
        refine lv_aload_n hx hb dX1_putInOrder_59 rfl (lv_at hl 0 rfl) ?_
        refine va_get (D := D) (ci := 1) (v := .ref (ad 19)) (C := RX1) (T := TX1) (N := 9) hx hb hts hiX1 hown hK hP 14 wXg14 rfl 8 (by decide) (hts (.fieldLink RX1 25 "ArcGuesser$Candidates" "order" "[I") (List.mem_of_getElem? (i := 3) rfl)) (fun _ h9 => h9) rfl dX1_putInOrder_60 ?_
        refine lv_iload_n hx hb dX1_putInOrder_63 rfl (lv_at hl 2 rfl) ?_
        refine lv_iload_n hx hb dX1_putInOrder_64 rfl (lv_at hl 1 rfl) ?_
        refine va_iast hx hb hK hP hD hS 19 0 wXg19 rfl hq.1 dX1_putInOrder_65 (fun H locs hP hD hS => ?_)
        have hP := wXsP19 hP
        have hD := wXsD19 hD
        have hq := hq.2
        refine lv_iinc (v := (v1 + (1 : Int32))) (lv' := [(1, .int (v1 + (1 : Int32))), (0, .ref (ad 14)), (2, .int v2)]) hx hb dX1_putInOrder_66 hl (k := 1) rfl (by rfl) (by decide) rfl (fun ls hl => ?_)
        refine lv_goto (tgt := 2) hx hb dX1_putInOrder_69 (by decide) ?_
        rw [hK2] at hq
        exact hq _ _ _ hP hD hS (lv_sub hl [1, 0] rfl)
      · have hq := hq.2 hc
        refine lv_aload_n hx hb dX1_putInOrder_39 rfl (lv_at hl 0 rfl) ?_
        refine va_get (D := D) (ci := 1) (v := .ref (ad 19)) (C := RX1) (T := TX1) (N := 9) hx hb hts hiX1 hown hK hP 14 wXg14 rfl 8 (by decide) (hts (.fieldLink RX1 25 "ArcGuesser$Candidates" "order" "[I") (List.mem_of_getElem? (i := 3) rfl)) (fun _ h9 => h9) rfl dX1_putInOrder_40 ?_
        refine lv_iload_n hx hb dX1_putInOrder_43 rfl (lv_at hl 2 rfl) ?_
        refine lv_aload_n hx hb dX1_putInOrder_44 rfl (lv_at hl 0 rfl) ?_
        refine va_get (D := D) (ci := 1) (v := .ref (ad 19)) (C := RX1) (T := TX1) (N := 9) hx hb hts hiX1 hown hK hP 14 wXg14 rfl 8 (by decide) (hts (.fieldLink RX1 25 "ArcGuesser$Candidates" "order" "[I") (List.mem_of_getElem? (i := 3) rfl)) (fun _ h9 => h9) rfl dX1_putInOrder_45 ?_
        refine lv_iload_n hx hb dX1_putInOrder_48 rfl (lv_at hl 2 rfl) ?_
        refine lv_iconst (v := (1 : Int32)) hx hb dX1_putInOrder_49 (by decide) ?_
        refine lv_isub hx hb dX1_putInOrder_50 ?_
        refine va_iald hx hb hK hP 19 0 wXg19 rfl hq.1 dX1_putInOrder_51 ?_
        have hq := hq.2
        refine va_iast hx hb hK hP hD hS 19 0 wXg19 rfl hq.1 dX1_putInOrder_52 (fun H locs hP hD hS => ?_)
        have hP := wXsP19 hP
        have hD := wXsD19 hD
        have hq := hq.2
        refine lv_iinc (v := (v2 + (-1 : Int32))) (lv' := [(2, .int (v2 + (-1 : Int32))), (0, .ref (ad 14)), (1, .int v1)]) hx hb dX1_putInOrder_53 hl (k := 2) rfl (by rfl) (by decide) rfl (fun ls hl => ?_)
        refine lv_goto (tgt := 12) hx hb dX1_putInOrder_56 (by decide) ?_
        rw [hK12] at hq
        exact hq _ _ _ hP hD hS (lv_sub hl [1, 2, 0] rfl)
  have hq := hwp K2 K12 hk2 hk12
  refine lv_iconst (v := (0 : Int32)) hx hb dX1_putInOrder_0 (by decide) ?_
  refine lv_istore_n (lv' := [(1, .int (0 : Int32)), (0, .ref (ad 14))]) hx hb dX1_putInOrder_1 rfl hl (by decide) rfl (fun ls hl => ?_)
  rw [hK2] at hq
  exact hq _ _ _ hP hD hS (lv_sub hl [1, 0] rfl)
/-! ArcGuesser$Draws.startFrom(I)V -/
def X2_startFrom_wp (σ : Sto) (p1 : Int32) (Post : Sto → Prop) : Prop :=
  (Post (sI σ 28 0 p1))
set_option maxHeartbeats 4000000 in
set_option maxRecDepth 100000 in
theorem mtX2_startFrom (l : Launch) (D : va_G) (ad : Nat → Nat) (cA : Nat → ClassId) (A : Nat → Prop) (σ : Sto) (p1 : Int32) (Post : Sto → Prop) (hwp : X2_startFrom_wp σ p1 Post) : Met l yX2_startFrom wsX2_startFrom ({ frames := 0, cells := 0, slots := 0, locals := 0 }) (va_Pc [.ref (ad 28), .int p1] (stW D (tyX cA) nwX (wX ad cA) A σ)) (va_Qv Post (enW D (wX ad cA) A) A) 0 0 A := by
  refine Met.ofW (cc := cX2_startFrom) (maxL := 2) (ret := none) (by decide) rfl ?_
  intro p e s m args below meth c s₁ B hml hv
  obtain ⟨rfl, hA, hN, hP, hK, hD⟩ := hv
  have hx := B.exec
  have hb := B.bytes
  have hr := B.returns
  have hts := atoms_spec (ws := wsX2_startFrom) B.pre
  have hown : s.vm.findClass RX2 = some m.cls := findClass_of_methodNamed B.named
  have hlocks := B.notSynchronized
  have hiX2 : ∀ w ∈ wsX20, w ∈ wsX2_startFrom := by decide +kernel
  have hS : va_S A s.heap s.heap [] := va_S.rf
  have hl := lv_entry ([.ref (ad 28), .int p1]) (n := 2) (Nat.le_of_ble_eq_true rfl)
  rw [lg_entry_eq]
  generalize (lg_sl ([.ref (ad 28), .int p1]) ++ List.replicate (2 - (lg_sl ([.ref (ad 28), .int p1])).length) Slot.unset).toArray = ls at hl ⊢
  have hl : lv_has ls 2 [(0, .ref (ad 28)), (1, .int p1)] := hl
  have hq := hwp
  unfold X2_startFrom_wp at hq
  refine lv_aload_n hx hb dX2_startFrom_0 rfl (lv_at hl 0 rfl) ?_
  refine lv_iload_n hx hb dX2_startFrom_1 rfl (lv_at hl 1 rfl) ?_
  refine va_put (D := D) (ci := 2) (v := .int p1) (ty := .int) (C := RX2) (T := TX2) (N := 1) hx hb hts hiX2 tyX2 tyX2_ok nmX2 hown hK hP hD hS 28 wXg28 rfl 0 (by decide) (hts (.fieldLink RX2 7 "ArcGuesser$Draws" "z" "I") (List.mem_of_getElem? (i := 1) rfl)) (fun _ h9 => h9) rfl (by decide +kernel) rfl rfl (Nat.le_of_ble_eq_true rfl) dX2_startFrom_2 (fun H locs hP hD hS => ?_)
  have hP := wXfP28_0 hP
  have hD := wXfD28_0 hD
  exact W.vret hx hb hr (fun t ht hW => ⟨⟨(sI σ 28 0 p1), rfl, hq, by rw [ht]; exact hP, hD⟩, hS.F ht⟩) hS.2.2 dX2_startFrom_5
