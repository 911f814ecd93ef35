/-! ArcGuesserModel.known(III)V -/
def X8_known_b3 (p1 : Int32) (p2 : Int32) (p3 : Int32) (K3 : Sto → Int32 → Prop) (Post : Sto → Prop) (σ : Sto) (v4 : Int32) : Prop :=
  (((144 : Int32) ≤ v4 → (vp_in p3 11 ∧ (vp_in ((((144 : Int32) * p3) + ((12 : Int32) * p1)) + p2) 1584 ∧ (vp_in ((((144 : Int32) * p3) + ((12 : Int32) * p1)) + p2) 1584 ∧ (Post (sJ (sJ (sI σ 10 (p3).toNatClampNeg (vp_nar .boolean (1 : Int32))) 0 19 (σ.2 8 (((((144 : Int32) * p3) + ((12 : Int32) * p1)) + p2)).toNatClampNeg)) 0 20 (σ.2 9 (((((144 : Int32) * p3) + ((12 : Int32) * p1)) + p2)).toNatClampNeg))))))) ∧ (¬ (144 : Int32) ≤ v4 → (vp_in p3 11 ∧ ((¬ (σ.1 10 (p3).toNatClampNeg) = 0 → (vp_in p3 11 ∧ (vp_in ((((144 : Int32) * p3) + ((12 : Int32) * p1)) + p2) 1584 ∧ (vp_in ((((144 : Int32) * p3) + ((12 : Int32) * p1)) + p2) 1584 ∧ (Post (sJ (sJ (sI σ 10 (p3).toNatClampNeg (vp_nar .boolean (1 : Int32))) 0 19 (σ.2 8 (((((144 : Int32) * p3) + ((12 : Int32) * p1)) + p2)).toNatClampNeg)) 0 20 (σ.2 9 (((((144 : Int32) * p3) + ((12 : Int32) * p1)) + p2)).toNatClampNeg))))))) ∧ ((σ.1 10 (p3).toNatClampNeg) = 0 → (X8_isNode_wp σ (v4 / (12 : Int32)) (fun r1 σ1 => ((r1 = 0 → (K3 σ1 (v4 + (1 : Int32)))) ∧ (¬ r1 = 0 → (X8_isNode_wp σ1 (v4 - v4 / (12 : Int32) * (12 : Int32)) (fun r2 σ2 => ((r2 = 0 → (K3 σ2 (v4 + (1 : Int32)))) ∧ (¬ r2 = 0 → (X8_isPair_wp σ2 (v4 / (12 : Int32)) (v4 - v4 / (12 : Int32) * (12 : Int32)) (fun r3 σ3 => ((r3 = 0 → (K3 σ3 (v4 + (1 : Int32)))) ∧ (¬ r3 = 0 → (X8_measure_wp σ3 (v4 / (12 : Int32)) (v4 - v4 / (12 : Int32) * (12 : Int32)) p3 (fun σ4 => (vp_in (((144 : Int32) * p3) + v4) 1584 ∧ (vp_in (((144 : Int32) * p3) + v4) 1584 ∧ (K3 (sJ (sJ σ4 8 ((((144 : Int32) * p3) + v4)).toNatClampNeg (σ4.2 0 19)) 9 ((((144 : Int32) * p3) + v4)).toNatClampNeg (σ4.2 0 20)) (v4 + (1 : Int32))))))))))))))))))))))))
def X8_known_wp (σ : Sto) (p1 : Int32) (p2 : Int32) (p3 : Int32) (Post : Sto → Prop) : Prop := ∀ (K3 : Sto → Int32 → Prop), (∀ (σ : Sto) (v4 : Int32), X8_known_b3 p1 p2 p3 K3 Post σ v4 → K3 σ v4) → 
  (K3 σ (0 : Int32))
set_option maxHeartbeats 4000000 in
set_option maxRecDepth 100000 in
theorem mtX8_known (l : Launch) (D : va_G) (ad : Nat → Nat) (cA : Nat → ClassId) (A : Nat → Prop) (σ : Sto) (p1 : Int32) (p2 : Int32) (p3 : Int32) (Post : Sto → Prop) (hwp : X8_known_wp σ p1 p2 p3 Post) : Met l yX8_known wsX8_known ({ frames := 5, cells := 0, slots := 0, locals := 136 }) (va_Pc [.ref (ad 0), .int p1, .int p2, .int p3] (stW D (tyM cA) nwM (wM ad cA) A σ)) (va_Qv Post (enW D (wM ad cA) A) A) 0 0 A := by
  refine Met.ofW (cc := cX8_known) (maxL := 5) (ret := none) (by decide) rfl ?_
  intro p e s m args below meth c s₁ B hml hv
  obtain ⟨rfl, hA, hN, hP, hK, hD⟩ := hv
  have hx := B.exec
  have hb := B.bytes
  have hr := B.returns
  have hts := atoms_spec (ws := wsX8_known) B.pre
  have hown : s.vm.findClass RX8 = some m.cls := findClass_of_methodNamed B.named
  have hlocks := B.notSynchronized
  have hiX8 : ∀ w ∈ wsX80, w ∈ wsX8_known := by decide +kernel
  have hS : va_S A s.heap s.heap [] := va_S.rf
  have hl := lv_entry ([.ref (ad 0), .int p1, .int p2, .int p3]) (n := 5) (Nat.le_of_ble_eq_true rfl)
  rw [lg_entry_eq]
  generalize (lg_sl ([.ref (ad 0), .int p1, .int p2, .int p3]) ++ List.replicate (5 - (lg_sl ([.ref (ad 0), .int p1, .int p2, .int p3])).length) Slot.unset).toArray = ls at hl ⊢
  have hl : lv_has ls 5 [(0, .ref (ad 0)), (1, .int p1), (2, .int p2), (3, .int p3)] := hl
  obtain ⟨K3, hK3⟩ : ∃ K : Sto → Int32 → Prop, K = fun (σ : Sto) (v4 : Int32) => ∀ (H : Heap) (locs : List Loc) (ls : Array Slot), va_P D vwCl ((wM ad cA) σ) H → va_D A ((wM ad cA) σ) → va_S A s.heap H locs → lv_has ls 5 [(0, .ref (ad 0)), (1, .int p1), (2, .int p2), (3, .int p3), (4, .int v4)] → W p l e (headSpec wsX8_known ({ frames := 5, cells := 0, slots := 0, locals := 136 })).room s m ([.ref (ad 0), .int p1, .int p2, .int p3] : List Value).toArray below meth c H locs 0 0 (MQ below (va_Qv Post (enW D (wM ad cA) A) A) ([.ref (ad 0), .int p1, .int p2, .int p3] : List Value).toArray s 0 0 A) (F0 m 3 ls []) := ⟨_, rfl⟩
  have hk3 : ∀ (σ : Sto) (v4 : Int32), X8_known_b3 p1 p2 p3 K3 Post σ v4 → K3 σ v4 := by
    intro σ v4 hq
    rw [hK3]
    intro H locs ls hP hD hS hl
    unfold X8_known_b3 at hq
    refine lv_iload hx hb dX8_known_3 (lv_at hl 4 rfl) ?_
    refine lv_sipush (v := (144 : Int32)) hx hb dX8_known_5 (by decide) ?_
    refine lv_icmp_ge (tgt := 116) hx hb dX8_known_8 (by decide) (fun hc => ?_) (fun hc => ?_)
    · have hq := hq.1 hc
      refine lv_aload_n hx hb dX8_known_116 rfl (lv_at hl 0 rfl) ?_
      refine va_get (D := D) (ci := 8) (v := .ref (ad 10)) (C := RX8) (T := TX8) (N := 32) hx hb hts hiX8 hown hK hP 0 wMg0 rfl 15 (by decide) (hts (.fieldLink RX8 52 "ArcGuesserModel" "isKnown" "[Z") (List.mem_of_getElem? (i := 1) rfl)) (fun _ h9 => h9) rfl dX8_known_117 ?_
      refine lv_iload_n hx hb dX8_known_120 rfl (lv_at hl 3 rfl) ?_
      refine lv_iconst (v := (1 : Int32)) hx hb dX8_known_121 (by decide) ?_
      refine va_zast hx hb hK hP hD hS 10 2 wMg10 rfl hq.1 dX8_known_122 (fun H locs hP hD hS => ?_)
      have hP := wMsP10 hP
      have hD := wMsD10 hD
      have hq := hq.2
      refine lv_aload_n hx hb dX8_known_123 rfl (lv_at hl 0 rfl) ?_
      refine lv_aload_n hx hb dX8_known_124 rfl (lv_at hl 0 rfl) ?_
      refine va_get (D := D) (ci := 8) (v := .ref (ad 8)) (C := RX8) (T := TX8) (N := 32) hx hb hts hiX8 hown hK hP 0 wMg0 rfl 13 (by decide) (hts (.fieldLink RX8 45 "ArcGuesserModel" "measureTop" "[J") (List.mem_of_getElem? (i := 2) rfl)) (fun _ h9 => h9) rfl dX8_known_125 ?_
      refine lv_sipush (v := (144 : Int32)) hx hb dX8_known_128 (by decide) ?_
      refine lv_iload_n hx hb dX8_known_131 rfl (lv_at hl 3 rfl) ?_
      refine lv_imul hx hb dX8_known_132 ?_
      refine lv_bipush (v := (12 : Int32)) hx hb dX8_known_133 (by decide) ?_
      refine lv_iload_n hx hb dX8_known_135 rfl (lv_at hl 1 rfl) ?_
      refine lv_imul hx hb dX8_known_136 ?_
      refine lv_iadd hx hb dX8_known_137 ?_
      refine lv_iload_n hx hb dX8_known_138 rfl (lv_at hl 2 rfl) ?_
      refine lv_iadd hx hb dX8_known_139 ?_
      refine va_lald (f := σ.2 8) hx hb hK hP 8 1 wMg8 rfl hq.1 dX8_known_140 ?_
      have hq := hq.2
      refine va_put (D := D) (ci := 8) (v := .long (σ.2 8 (((((144 : Int32) * p3) + ((12 : Int32) * p1)) + p2)).toNatClampNeg)) (ty := .long) (C := RX8) (T := TX8) (N := 32) hx hb hts hiX8 tyX8 tyX8_ok nmX8 hown hK hP hD hS 0 wMg0 rfl 19 (by decide) (hts (.fieldLink RX8 136 "ArcGuesserModel" "top" "J") (List.mem_of_getElem? (i := 3) rfl)) (fun _ h9 => h9) rfl (by decide +kernel) rfl rfl (Nat.le_of_ble_eq_true rfl) dX8_known_141 (fun H locs hP hD hS => ?_)
      have hP := wMfP0_19 hP
      have hD := wMfD0_19 hD
      refine lv_aload_n hx hb dX8_known_144 rfl (lv_at hl 0 rfl) ?_
      refine lv_aload_n hx hb dX8_known_145 rfl (lv_at hl 0 rfl) ?_
      refine va_get (D := D) (ci := 8) (v := .ref (ad 9)) (C := RX8) (T := TX8) (N := 32) hx hb hts hiX8 hown hK hP 0 wMg0 rfl 14 (by decide) (hts (.fieldLink RX8 49 "ArcGuesserModel" "measureBottom" "[J") (List.mem_of_getElem? (i := 4) rfl)) (fun _ h9 => h9) rfl dX8_known_146 ?_
      refine lv_sipush (v := (144 : Int32)) hx hb dX8_known_149 (by decide) ?_
      refine lv_iload_n hx hb dX8_known_152 rfl (lv_at hl 3 rfl) ?_
      refine lv_imul hx hb dX8_known_153 ?_
      refine lv_bipush (v := (12 : Int32)) hx hb dX8_known_154 (by decide) ?_
      refine lv_iload_n hx hb dX8_known_156 rfl (lv_at hl 1 rfl) ?_
      refine lv_imul hx hb dX8_known_157 ?_
      refine lv_iadd hx hb dX8_known_158 ?_
      refine lv_iload_n hx hb dX8_known_159 rfl (lv_at hl 2 rfl) ?_
      refine lv_iadd hx hb dX8_known_160 ?_
      refine va_lald (f := σ.2 9) hx hb hK hP 9 1 wMg9 rfl hq.1 dX8_known_161 ?_
      have hq := hq.2
      refine va_put (D := D) (ci := 8) (v := .long (σ.2 9 (((((144 : Int32) * p3) + ((12 : Int32) * p1)) + p2)).toNatClampNeg)) (ty := .long) (C := RX8) (T := TX8) (N := 32) hx hb hts hiX8 tyX8 tyX8_ok nmX8 hown hK hP hD hS 0 wMg0 rfl 20 (by decide) (hts (.fieldLink RX8 139 "ArcGuesserModel" "bottom" "J") (List.mem_of_getElem? (i := 5) rfl)) (fun _ h9 => h9) rfl (by decide +kernel) rfl rfl (Nat.le_of_ble_eq_true rfl) dX8_known_162 (fun H locs hP hD hS => ?_)
      have hP := wMfP0_20 hP
      have hD := wMfD0_20 hD
      exact W.vret hx hb hr (fun t ht hW => ⟨⟨(sJ (sJ (sI σ 10 (p3).toNatClampNeg (vp_nar .boolean (1 : Int32))) 0 19 (σ.2 8 (((((144 : Int32) * p3) + ((12 : Int32) * p1)) + p2)).toNatClampNeg)) 0 20 (σ.2 9 (((((144 : Int32) * p3) + ((12 : Int32) * p1)) + p2)).toNatClampNeg)), rfl, hq, by rw [ht]; exact hP, hD⟩, hS.F ht⟩) hS.2.2 dX8_known_165
    · have hq := hq.2 hc
      refine lv_aload_n hx hb dX8_known_11 rfl (lv_at hl 0 rfl) ?_
      refine va_get (D := D) (ci := 8) (v := .ref (ad 10)) (C := RX8) (T := TX8) (N := 32) hx hb hts hiX8 hown hK hP 0 wMg0 rfl 15 (by decide) (hts (.fieldLink RX8 52 "ArcGuesserModel" "isKnown" "[Z") (List.mem_of_getElem? (i := 1) rfl)) (fun _ h9 => h9) rfl dX8_known_12 ?_
      refine lv_iload_n hx hb dX8_known_15 rfl (lv_at hl 3 rfl) ?_
      refine va_zald hx hb hK hP 10 2 wMg10 rfl hq.1 dX8_known_16 ?_
      have hq := hq.2
      refine lv_if_ne (tgt := 116) hx hb dX8_known_17 (by decide) (fun hc => ?_) (fun hc => ?_)
      · have hq := hq.1 hc
        refine lv_aload_n hx hb dX8_known_116 rfl (lv_at hl 0 rfl) ?_
        refine va_get (D := D) (ci := 8) (v := .ref (ad 10)) (C := RX8) (T := TX8) (N := 32) hx hb hts hiX8 hown hK hP 0 wMg0 rfl 15 (by decide) (hts (.fieldLink RX8 52 "ArcGuesserModel" "isKnown" "[Z") (List.mem_of_getElem? (i := 1) rfl)) (fun _ h9 => h9) rfl dX8_known_117 ?_
        refine lv_iload_n hx hb dX8_known_120 rfl (lv_at hl 3 rfl) ?_
        refine lv_iconst (v := (1 : Int32)) hx hb dX8_known_121 (by decide) ?_
        refine va_zast hx hb hK hP hD hS 10 2 wMg10 rfl hq.1 dX8_known_122 (fun H locs hP hD hS => ?_)
        have hP := wMsP10 hP
        have hD := wMsD10 hD
        have hq := hq.2
        refine lv_aload_n hx hb dX8_known_123 rfl (lv_at hl 0 rfl) ?_
        refine lv_aload_n hx hb dX8_known_124 rfl (lv_at hl 0 rfl) ?_
        refine va_get (D := D) (ci := 8) (v := .ref (ad 8)) (C := RX8) (T := TX8) (N := 32) hx hb hts hiX8 hown hK hP 0 wMg0 rfl 13 (by decide) (hts (.fieldLink RX8 45 "ArcGuesserModel" "measureTop" "[J") (List.mem_of_getElem? (i := 2) rfl)) (fun _ h9 => h9) rfl dX8_known_125 ?_
        refine lv_sipush (v := (144 : Int32)) hx hb dX8_known_128 (by decide) ?_
        refine lv_iload_n hx hb dX8_known_131 rfl (lv_at hl 3 rfl) ?_
        refine lv_imul hx hb dX8_known_132 ?_
        refine lv_bipush (v := (12 : Int32)) hx hb dX8_known_133 (by decide) ?_
        refine lv_iload_n hx hb dX8_known_135 rfl (lv_at hl 1 rfl) ?_
        refine lv_imul hx hb dX8_known_136 ?_
        refine lv_iadd hx hb dX8_known_137 ?_
        refine lv_iload_n hx hb dX8_known_138 rfl (lv_at hl 2 rfl) ?_
        refine lv_iadd hx hb dX8_known_139 ?_
        refine va_lald (f := σ.2 8) hx hb hK hP 8 1 wMg8 rfl hq.1 dX8_known_140 ?_
        have hq := hq.2
        refine va_put (D := D) (ci := 8) (v := .long (σ.2 8 (((((144 : Int32) * p3) + ((12 : Int32) * p1)) + p2)).toNatClampNeg)) (ty := .long) (C := RX8) (T := TX8) (N := 32) hx hb hts hiX8 tyX8 tyX8_ok nmX8 hown hK hP hD hS 0 wMg0 rfl 19 (by decide) (hts (.fieldLink RX8 136 "ArcGuesserModel" "top" "J") (List.mem_of_getElem? (i := 3) rfl)) (fun _ h9 => h9) rfl (by decide +kernel) rfl rfl (Nat.le_of_ble_eq_true rfl) dX8_known_141 (fun H locs hP hD hS => ?_)
        have hP := wMfP0_19 hP
        have hD := wMfD0_19 hD
        refine lv_aload_n hx hb dX8_known_144 rfl (lv_at hl 0 rfl) ?_
        refine lv_aload_n hx hb dX8_known_145 rfl (lv_at hl 0 rfl) ?_
        refine va_get (D := D) (ci := 8) (v := .ref (ad 9)) (C := RX8) (T := TX8) (N := 32) hx hb hts hiX8 hown hK hP 0 wMg0 rfl 14 (by decide) (hts (.fieldLink RX8 49 "ArcGuesserModel" "measureBottom" "[J") (List.mem_of_getElem? (i := 4) rfl)) (fun _ h9 => h9) rfl dX8_known_146 ?_
        refine lv_sipush (v := (144 : Int32)) hx hb dX8_known_149 (by decide) ?_
        refine lv_iload_n hx hb dX8_known_152 rfl (lv_at hl 3 rfl) ?_
        refine lv_imul hx hb dX8_known_153 ?_
        refine lv_bipush (v := (12 : Int32)) hx hb dX8_known_154 (by decide) ?_
        refine lv_iload_n hx hb dX8_known_156 rfl (lv_at hl 1 rfl) ?_
        refine lv_imul hx hb dX8_known_157 ?_
        refine lv_iadd hx hb dX8_known_158 ?_
        refine lv_iload_n hx hb dX8_known_159 rfl (lv_at hl 2 rfl) ?_
        refine lv_iadd hx hb dX8_known_160 ?_
        refine va_lald (f := σ.2 9) hx hb hK hP 9 1 wMg9 rfl hq.1 dX8_known_161 ?_
        have hq := hq.2
        refine va_put (D := D) (ci := 8) (v := .long (σ.2 9 (((((144 : Int32) * p3) + ((12 : Int32) * p1)) + p2)).toNatClampNeg)) (ty := .long) (C := RX8) (T := TX8) (N := 32) hx hb hts hiX8 tyX8 tyX8_ok nmX8 hown hK hP hD hS 0 wMg0 rfl 20 (by decide) (hts (.fieldLink RX8 139 "ArcGuesserModel" "bottom" "J") (List.mem_of_getElem? (i := 5) rfl)) (fun _ h9 => h9) rfl (by decide +kernel) rfl rfl (Nat.le_of_ble_eq_true rfl) dX8_known_162 (fun H locs hP hD hS => ?_)
        have hP := wMfP0_20 hP
        have hD := wMfD0_20 hD
        exact W.vret hx hb hr (fun t ht hW => ⟨⟨(sJ (sJ (sI σ 10 (p3).toNatClampNeg (vp_nar .boolean (1 : Int32))) 0 19 (σ.2 8 (((((144 : Int32) * p3) + ((12 : Int32) * p1)) + p2)).toNatClampNeg)) 0 20 (σ.2 9 (((((144 : Int32) * p3) + ((12 : Int32) * p1)) + p2)).toNatClampNeg)), rfl, hq, by rw [ht]; exact hP, hD⟩, hS.F ht⟩) hS.2.2 dX8_known_165
      · have hq := hq.2 hc
        refine lv_aload_n hx hb dX8_known_20 rfl (lv_at hl 0 rfl) ?_
        refine lv_iload hx hb dX8_known_21 (lv_at hl 4 rfl) ?_
        refine lv_bipush (v := (12 : Int32)) hx hb dX8_known_23 (by decide) ?_
        refine lv_idiv hx hb dX8_known_25 (by decide) ?_
        refine w_calli (va_runV (As := [.int (v4 / (12 : Int32))]) (rest := []) ⟨hx, hb, hml, hown, hts⟩ (mtX8_isNode l D ad cA A σ (v4 / (12 : Int32)) _ hq) (cwV 1 hts gX8_known_X8_isNode rfl rfl rfl (by decide +kernel) ⟨Nat.le_of_ble_eq_true rfl, Nat.le_of_ble_eq_true rfl⟩) ⟨stW_blind nwM_ok, va_recv hK hP (ci := 8) (q0 := 0) rfl wMg0, stW_pass hA hS hN hK hP hD nwM_ok⟩ rfl rfl hl.1 rfl (lv_room (Nat.le_of_ble_eq_true rfl)) dX8_known_26 ⟨Nat.le_of_ble_eq_true rfl, Nat.le_of_ble_eq_true rfl⟩) hS (fun r1 σ1 H locs hq hP hD hS => ?_)
        refine lv_if_eq (tgt := 110) hx hb dX8_known_29 (by decide) (fun hc => ?_) (fun hc => ?_)
        · have hq := hq.1 hc
          refine lv_iinc (v := (v4 + (1 : Int32))) (lv' := [(4, .int (v4 + (1 : Int32))), (0, .ref (ad 0)), (1, .int p1), (2, .int p2), (3, .int p3)]) hx hb dX8_known_110 hl (k := 4) rfl (by rfl) (by decide) rfl (fun ls hl => ?_)
          refine lv_goto (tgt := 3) hx hb dX8_known_113 (by decide) ?_
          rw [hK3] at hq
          exact hq _ _ _ hP hD hS (lv_sub hl [1, 2, 3, 4, 0] rfl)
        · have hq := hq.2 hc
          refine lv_aload_n hx hb dX8_known_32 rfl (lv_at hl 0 rfl) ?_
          refine lv_iload hx hb dX8_known_33 (lv_at hl 4 rfl) ?_
          refine lv_bipush (v := (12 : Int32)) hx hb dX8_known_35 (by decide) ?_
          refine lv_irem hx hb dX8_known_37 (by decide) ?_
          refine w_calli (va_runV (As := [.int (v4 - v4 / (12 : Int32) * (12 : Int32))]) (rest := []) ⟨hx, hb, hml, hown, hts⟩ (mtX8_isNode l D ad cA A σ1 (v4 - v4 / (12 : Int32) * (12 : Int32)) _ hq) (cwV 1 hts gX8_known_X8_isNode rfl rfl rfl (by decide +kernel) ⟨Nat.le_of_ble_eq_true rfl, Nat.le_of_ble_eq_true rfl⟩) ⟨stW_blind nwM_ok, va_recv hK hP (ci := 8) (q0 := 0) rfl wMg0, stW_pass hA hS hN hK hP hD nwM_ok⟩ rfl rfl hl.1 rfl (lv_room (Nat.le_of_ble_eq_true rfl)) dX8_known_38 ⟨Nat.le_of_ble_eq_true rfl, Nat.le_of_ble_eq_true rfl⟩) hS (fun r2 σ2 H locs hq hP hD hS => ?_)
          refine lv_if_eq (tgt := 110) hx hb dX8_known_41 (by decide) (fun hc => ?_) (fun hc => ?_)
          · have hq := hq.1 hc
            refine lv_iinc (v := (v4 + (1 : Int32))) (lv' := [(4, .int (v4 + (1 : Int32))), (0, .ref (ad 0)), (1, .int p1), (2, .int p2), (3, .int p3)]) hx hb dX8_known_110 hl (k := 4) rfl (by rfl) (by decide) rfl (fun ls hl => ?_)
            refine lv_goto (tgt := 3) hx hb dX8_known_113 (by decide) ?_
            rw [hK3] at hq
            exact hq _ _ _ hP hD hS (lv_sub hl [1, 2, 3, 4, 0] rfl)
          · have hq := hq.2 hc
            refine lv_aload_n hx hb dX8_known_44 rfl (lv_at hl 0 rfl) ?_
            refine lv_iload hx hb dX8_known_45 (lv_at hl 4 rfl) ?_
            refine lv_bipush (v := (12 : Int32)) hx hb dX8_known_47 (by decide) ?_
            refine lv_idiv hx hb dX8_known_49 (by decide) ?_
            refine lv_iload hx hb dX8_known_50 (lv_at hl 4 rfl) ?_
            refine lv_bipush (v := (12 : Int32)) hx hb dX8_known_52 (by decide) ?_
            refine lv_irem hx hb dX8_known_54 (by decide) ?_
            refine w_calli (va_runV (As := [.int (v4 / (12 : Int32)), .int (v4 - v4 / (12 : Int32) * (12 : Int32))]) (rest := []) ⟨hx, hb, hml, hown, hts⟩ (mtX8_isPair l D ad cA A σ2 (v4 / (12 : Int32)) (v4 - v4 / (12 : Int32) * (12 : Int32)) _ hq) (cwV 2 hts gX8_known_X8_isPair rfl rfl rfl (by decide +kernel) ⟨Nat.le_of_ble_eq_true rfl, Nat.le_of_ble_eq_true rfl⟩) ⟨stW_blind nwM_ok, va_recv hK hP (ci := 8) (q0 := 0) rfl wMg0, stW_pass hA hS hN hK hP hD nwM_ok⟩ rfl rfl hl.1 rfl (lv_room (Nat.le_of_ble_eq_true rfl)) dX8_known_55 ⟨Nat.le_of_ble_eq_true rfl, Nat.le_of_ble_eq_true rfl⟩) hS (fun r3 σ3 H locs hq hP hD hS => ?_)
            refine lv_if_eq (tgt := 110) hx hb dX8_known_58 (by decide) (fun hc => ?_) (fun hc => ?_)
            · have hq := hq.1 hc
              refine lv_iinc (v := (v4 + (1 : Int32))) (lv' := [(4, .int (v4 + (1 : Int32))), (0, .ref (ad 0)), (1, .int p1), (2, .int p2), (3, .int p3)]) hx hb dX8_known_110 hl (k := 4) rfl (by rfl) (by decide) rfl (fun ls hl => ?_)
              refine lv_goto (tgt := 3) hx hb dX8_known_113 (by decide) ?_
              rw [hK3] at hq
              exact hq _ _ _ hP hD hS (lv_sub hl [1, 2, 3, 4, 0] rfl)
            · have hq := hq.2 hc
              refine lv_aload_n hx hb dX8_known_61 rfl (lv_at hl 0 rfl) ?_
              refine lv_iload hx hb dX8_known_62 (lv_at hl 4 rfl) ?_
              refine lv_bipush (v := (12 : Int32)) hx hb dX8_known_64 (by decide) ?_
              refine lv_idiv hx hb dX8_known_66 (by decide) ?_
              refine lv_iload hx hb dX8_known_67 (lv_at hl 4 rfl) ?_
              refine lv_bipush (v := (12 : Int32)) hx hb dX8_known_69 (by decide) ?_
              refine lv_irem hx hb dX8_known_71 (by decide) ?_
              refine lv_iload_n hx hb dX8_known_72 rfl (lv_at hl 3 rfl) ?_
              refine w_callv (va_runV (As := [.int (v4 / (12 : Int32)), .int (v4 - v4 / (12 : Int32) * (12 : Int32)), .int p3]) (rest := []) ⟨hx, hb, hml, hown, hts⟩ (mtX8_measure l D ad cA A σ3 (v4 / (12 : Int32)) (v4 - v4 / (12 : Int32) * (12 : Int32)) p3 _ hq) (cwV 3 hts gX8_known_X8_measure rfl rfl rfl (by decide +kernel) ⟨Nat.le_of_ble_eq_true rfl, Nat.le_of_ble_eq_true rfl⟩) ⟨stW_blind nwM_ok, va_recv hK hP (ci := 8) (q0 := 0) rfl wMg0, stW_pass hA hS hN hK hP hD nwM_ok⟩ rfl rfl hl.1 rfl (lv_room (Nat.le_of_ble_eq_true rfl)) dX8_known_73 ⟨Nat.le_of_ble_eq_true rfl, Nat.le_of_ble_eq_true rfl⟩) hS (fun σ4 H locs hq hP hD hS => ?_)
              refine lv_aload_n hx hb dX8_known_76 rfl (lv_at hl 0 rfl) ?_
              refine va_get (D := D) (ci := 8) (v := .ref (ad 8)) (C := RX8) (T := TX8) (N := 32) hx hb hts hiX8 hown hK hP 0 wMg0 rfl 13 (by decide) (hts (.fieldLink RX8 45 "ArcGuesserModel" "measureTop" "[J") (List.mem_of_getElem? (i := 2) rfl)) (fun _ h9 => h9) rfl dX8_known_77 ?_
              refine lv_sipush (v := (144 : Int32)) hx hb dX8_known_80 (by decide) ?_
              refine lv_iload_n hx hb dX8_known_83 rfl (lv_at hl 3 rfl) ?_
              refine lv_imul hx hb dX8_known_84 ?_
              refine lv_iload hx hb dX8_known_85 (lv_at hl 4 rfl) ?_
              refine lv_iadd hx hb dX8_known_87 ?_
              refine lv_aload_n hx hb dX8_known_88 rfl (lv_at hl 0 rfl) ?_
              refine va_get (D := D) (ci := 8) (v := .long (σ4.2 0 19)) (C := RX8) (T := TX8) (N := 32) hx hb hts hiX8 hown hK hP 0 wMg0 rfl 19 (by decide) (hts (.fieldLink RX8 136 "ArcGuesserModel" "top" "J") (List.mem_of_getElem? (i := 3) rfl)) (fun _ h9 => h9) rfl dX8_known_89 ?_
              refine va_last hx hb hK hP hD hS 8 1 wMg8 rfl hq.1 dX8_known_92 (fun H locs hP hD hS => ?_)
              have hP := wMsP8 hP
              have hD := wMsD8 hD
              have hq := hq.2
              refine lv_aload_n hx hb dX8_known_93 rfl (lv_at hl 0 rfl) ?_
              refine va_get (D := D) (ci := 8) (v := .ref (ad 9)) (C := RX8) (T := TX8) (N := 32) hx hb hts hiX8 hown hK hP 0 wMg0 rfl 14 (by decide) (hts (.fieldLink RX8 49 "ArcGuesserModel" "measureBottom" "[J") (List.mem_of_getElem? (i := 4) rfl)) (fun _ h9 => h9) rfl dX8_known_94 ?_
              refine lv_sipush (v := (144 : Int32)) hx hb dX8_known_97 (by decide) ?_
              refine lv_iload_n hx hb dX8_known_100 rfl (lv_at hl 3 rfl) ?_
              refine lv_imul hx hb dX8_known_101 ?_
              refine lv_iload hx hb dX8_known_102 (lv_at hl 4 rfl) ?_
              refine lv_iadd hx hb dX8_known_104 ?_
              refine lv_aload_n hx hb dX8_known_105 rfl (lv_at hl 0 rfl) ?_
              refine va_get (D := D) (ci := 8) (v := .long (σ4.2 0 20)) (C := RX8) (T := TX8) (N := 32) hx hb hts hiX8 hown hK hP 0 wMg0 rfl 20 (by decide) (hts (.fieldLink RX8 139 "ArcGuesserModel" "bottom" "J") (List.mem_of_getElem? (i := 5) rfl)) (fun _ h9 => h9) rfl dX8_known_106 ?_
              refine va_last hx hb hK hP hD hS 9 1 wMg9 rfl hq.1 dX8_known_109 (fun H locs hP hD hS => ?_)
              have hP := wMsP9 hP
              have hD := wMsD9 hD
              have hq := hq.2
              refine lv_iinc (v := (v4 + (1 : Int32))) (lv' := [(4, .int (v4 + (1 : Int32))), (0, .ref (ad 0)), (1, .int p1), (2, .int p2), (3, .int p3)]) hx hb dX8_known_110 hl (k := 4) rfl (by rfl) (by decide) rfl (fun ls hl => ?_)
              refine lv_goto (tgt := 3) hx hb dX8_known_113 (by decide) ?_
              rw [hK3] at hq
              exact hq _ _ _ hP hD hS (lv_sub hl [1, 2, 3, 4, 0] rfl)
  have hq := hwp K3 hk3
  refine lv_iconst (v := (0 : Int32)) hx hb dX8_known_0 (by decide) ?_
  refine lv_istore (lv' := [(4, .int (0 : Int32)), (0, .ref (ad 0)), (1, .int p1), (2, .int p2), (3, .int p3)]) hx hb dX8_known_1 hl (by decide) rfl (fun ls hl => ?_)
  rw [hK3] at hq
  exact hq _ _ _ hP hD hS (lv_sub hl [1, 2, 3, 4, 0] rfl)
/-! ArcGuesserModel.mix(II)V -/
def X8_mix_b8 (p1 : Int32) (p2 : Int32) (K8 : Sto → Int64 → Int64 → Int32 → Prop) (Post : Sto → Prop) (σ : Sto) (v3 : Int64) (v5 : Int64) (v7 : Int32) : Prop :=
  (((11 : Int32) ≤ v7 → (X8_make_wp σ v3 v5 (fun σ1 => (Post σ1)))) ∧ (¬ (11 : Int32) ≤ v7 → (vp_in v7 11 ∧ (((σ.1 7 (v7).toNatClampNeg) = 0 → (K8 σ v3 v5 (v7 + (1 : Int32)))) ∧ (¬ (σ.1 7 (v7).toNatClampNeg) = 0 → (X8_known_wp σ p1 p2 v7 (fun σ2 => (vp_in v7 11 ∧ (X8_make_wp σ2 v3 v5 (fun σ3 => (X8_plus_wp σ3 ((σ2.2 0 19) * ((σ2.1 7 (v7).toNatClampNeg)).toInt64) (σ2.2 0 20) (fun σ4 => (K8 σ4 (σ4.2 0 19) (σ4.2 0 20) (v7 + (1 : Int32)))))))))))))))
def X8_mix_wp (σ : Sto) (p1 : Int32) (p2 : Int32) (Post : Sto → Prop) : Prop := ∀ (K8 : Sto → Int64 → Int64 → Int32 → Prop), (∀ (σ : Sto) (v3 : Int64) (v5 : Int64) (v7 : Int32), X8_mix_b8 p1 p2 K8 Post σ v3 v5 v7 → K8 σ v3 v5 v7) → 
  (K8 σ (0 : Int64) (1 : Int64) (0 : Int32))
set_option maxHeartbeats 4000000 in
set_option maxRecDepth 100000 in
theorem mtX8_mix (l : Launch) (D : va_G) (ad : Nat → Nat) (cA : Nat → ClassId) (A : Nat → Prop) (σ : Sto) (p1 : Int32) (p2 : Int32) (Post : Sto → Prop) (hwp : X8_mix_wp σ p1 p2 Post) : Met l yX8_mix wsX8_mix ({ frames := 6, cells := 0, slots := 0, locals := 160 }) (va_Pc [.ref (ad 0), .int p1, .int p2] (stW D (tyM cA) nwM (wM ad cA) A σ)) (va_Qv Post (enW D (wM ad cA) A) A) 0 0 A := by
  refine Met.ofW (cc := cX8_mix) (maxL := 12) (ret := none) (by decide) rfl ?_
  intro p e s m args below meth c s₁ B hml hv
  obtain ⟨rfl, hA, hN, hP, hK, hD⟩ := hv
  have hx := B.exec
  have hb := B.bytes
  have hr := B.returns
  have hts := atoms_spec (ws := wsX8_mix) B.pre
  have hown : s.vm.findClass RX8 = some m.cls := findClass_of_methodNamed B.named
  have hlocks := B.notSynchronized
  have hiX8 : ∀ w ∈ wsX80, w ∈ wsX8_mix := by decide +kernel
  have hS : va_S A s.heap s.heap [] := va_S.rf
  have hl := lv_entry ([.ref (ad 0), .int p1, .int p2]) (n := 12) (Nat.le_of_ble_eq_true rfl)
  rw [lg_entry_eq]
  generalize (lg_sl ([.ref (ad 0), .int p1, .int p2]) ++ List.replicate (12 - (lg_sl ([.ref (ad 0), .int p1, .int p2])).length) Slot.unset).toArray = ls at hl ⊢
  have hl : lv_has ls 12 [(0, .ref (ad 0)), (1, .int p1), (2, .int p2)] := hl
  obtain ⟨K8, hK8⟩ : ∃ K : Sto → Int64 → Int64 → Int32 → Prop, K = fun (σ : Sto) (v3 : Int64) (v5 : Int64) (v7 : Int32) => ∀ (H : Heap) (locs : List Loc) (ls : Array Slot), va_P D vwCl ((wM ad cA) σ) H → va_D A ((wM ad cA) σ) → va_S A s.heap H locs → lv_has ls 12 [(0, .ref (ad 0)), (1, .int p1), (2, .int p2), (3, .long v3), (5, .long v5), (7, .int v7)] → W p l e (headSpec wsX8_mix ({ frames := 6, cells := 0, slots := 0, locals := 160 })).room s m ([.ref (ad 0), .int p1, .int p2] : List Value).toArray below meth c H locs 0 0 (MQ below (va_Qv Post (enW D (wM ad cA) A) A) ([.ref (ad 0), .int p1, .int p2] : List Value).toArray s 0 0 A) (F0 m 8 ls []) := ⟨_, rfl⟩
  have hk8 : ∀ (σ : Sto) (v3 : Int64) (v5 : Int64) (v7 : Int32), X8_mix_b8 p1 p2 K8 Post σ v3 v5 v7 → K8 σ v3 v5 v7 := by
    intro σ v3 v5 v7 hq
    rw [hK8]
    intro H locs ls hP hD hS hl
    unfold X8_mix_b8 at hq
    refine lv_iload hx hb dX8_mix_8 (lv_at hl 5 rfl) ?_
    refine lv_bipush (v := (11 : Int32)) hx hb dX8_mix_10 (by decide) ?_
    refine lv_icmp_ge (tgt := 86) hx hb dX8_mix_12 (by decide) (fun hc => ?_) (fun hc => ?_)
    · have hq := hq.1 hc
      refine lv_aload_n hx hb dX8_mix_86 rfl (lv_at hl 0 rfl) ?_
      refine lv_lload_n hx hb dX8_mix_87 rfl (lv_at hl 3 rfl) ?_
      refine lv_lload hx hb dX8_mix_88 (lv_at hl 4 rfl) ?_
      refine w_callv (va_runV (As := [.long v3, .long v5]) (rest := []) ⟨hx, hb, hml, hown, hts⟩ (mtX8_make l D ad cA A σ v3 v5 _ hq) (cwV 2 hts gX8_mix_X8_make rfl rfl rfl (by decide +kernel) ⟨Nat.le_of_ble_eq_true rfl, Nat.le_of_ble_eq_true rfl⟩) ⟨stW_blind nwM_ok, va_recv hK hP (ci := 8) (q0 := 0) rfl wMg0, stW_pass hA hS hN hK hP hD nwM_ok⟩ rfl rfl hl.1 rfl (lv_room (Nat.le_of_ble_eq_true rfl)) dX8_mix_90 ⟨Nat.le_of_ble_eq_true rfl, Nat.le_of_ble_eq_true rfl⟩) hS (fun σ1 H locs hq hP hD hS => ?_)
      exact W.vret hx hb hr (fun t ht hW => ⟨⟨σ1, rfl, hq, by rw [ht]; exact hP, hD⟩, hS.F ht⟩) hS.2.2 dX8_mix_93
    · have hq := hq.2 hc
      refine lv_aload_n hx hb dX8_mix_15 rfl (lv_at hl 0 rfl) ?_
      refine va_get (D := D) (ci := 8) (v := .ref (ad 7)) (C := RX8) (T := TX8) (N := 32) hx hb hts hiX8 hown hK hP 0 wMg0 rfl 9 (by decide) (hts (.fieldLink RX8 33 "ArcGuesserModel" "weights" "[I") (List.mem_of_getElem? (i := 1) rfl)) (fun _ h9 => h9) rfl dX8_mix_16 ?_
      refine lv_iload hx hb dX8_mix_19 (lv_at hl 5 rfl) ?_
      refine va_iald hx hb hK hP 7 0 wMg7 rfl hq.1 dX8_mix_21 ?_
      have hq := hq.2
      refine lv_if_eq (tgt := 80) hx hb dX8_mix_22 (by decide) (fun hc => ?_) (fun hc => ?_)
      · have hq := hq.1 hc
        refine lv_iinc (v := (v7 + (1 : Int32))) (lv' := [(7, .int (v7 + (1 : Int32))), (0, .ref (ad 0)), (1, .int p1), (2, .int p2), (3, .long v3), (5, .long v5)]) hx hb dX8_mix_80 hl (k := 5) rfl (by rfl) (by decide) rfl (fun ls hl => ?_)
        refine lv_goto (tgt := 8) hx hb dX8_mix_83 (by decide) ?_
        rw [hK8] at hq
        exact hq _ _ _ hP hD hS (lv_sub hl [1, 2, 3, 4, 5, 0] rfl)
      · have hq := hq.2 hc
        refine lv_aload_n hx hb dX8_mix_25 rfl (lv_at hl 0 rfl) ?_
        refine lv_iload_n hx hb dX8_mix_26 rfl (lv_at hl 1 rfl) ?_
        refine lv_iload_n hx hb dX8_mix_27 rfl (lv_at hl 2 rfl) ?_
        refine lv_iload hx hb dX8_mix_28 (lv_at hl 5 rfl) ?_
        refine w_callv (va_runV (As := [.int p1, .int p2, .int v7]) (rest := []) ⟨hx, hb, hml, hown, hts⟩ (mtX8_known l D ad cA A σ p1 p2 v7 _ hq) (cwV 3 hts gX8_mix_X8_known rfl rfl rfl (by decide +kernel) ⟨Nat.le_of_ble_eq_true rfl, Nat.le_of_ble_eq_true rfl⟩) ⟨stW_blind nwM_ok, va_recv hK hP (ci := 8) (q0 := 0) rfl wMg0, stW_pass hA hS hN hK hP hD nwM_ok⟩ rfl rfl hl.1 rfl (lv_room (Nat.le_of_ble_eq_true rfl)) dX8_mix_30 ⟨Nat.le_of_ble_eq_true rfl, Nat.le_of_ble_eq_true rfl⟩) hS (fun σ2 H locs hq hP hD hS => ?_)
        refine lv_aload_n hx hb dX8_mix_33 rfl (lv_at hl 0 rfl) ?_
        refine va_get (D := D) (ci := 8) (v := .long (σ2.2 0 19)) (C := RX8) (T := TX8) (N := 32) hx hb hts hiX8 hown hK hP 0 wMg0 rfl 19 (by decide) (hts (.fieldLink RX8 136 "ArcGuesserModel" "top" "J") (List.mem_of_getElem? (i := 2) rfl)) (fun _ h9 => h9) rfl dX8_mix_34 ?_
        refine lv_aload_n hx hb dX8_mix_37 rfl (lv_at hl 0 rfl) ?_
        refine va_get (D := D) (ci := 8) (v := .ref (ad 7)) (C := RX8) (T := TX8) (N := 32) hx hb hts hiX8 hown hK hP 0 wMg0 rfl 9 (by decide) (hts (.fieldLink RX8 33 "ArcGuesserModel" "weights" "[I") (List.mem_of_getElem? (i := 1) rfl)) (fun _ h9 => h9) rfl dX8_mix_38 ?_
        refine lv_iload hx hb dX8_mix_41 (lv_at hl 5 rfl) ?_
        refine va_iald hx hb hK hP 7 0 wMg7 rfl hq.1 dX8_mix_43 ?_
        have hq := hq.2
        refine lv_i2l hx hb dX8_mix_44 rfl ?_
        refine lv_lmul hx hb dX8_mix_45 ?_
        refine lv_lstore (lv' := [(8, .long ((σ2.2 0 19) * ((σ2.1 7 (v7).toNatClampNeg)).toInt64)), (0, .ref (ad 0)), (1, .int p1), (2, .int p2), (3, .long v3), (5, .long v5), (7, .int v7)]) hx hb dX8_mix_46 hl (by decide) rfl (fun ls hl => ?_)
        refine lv_aload_n hx hb dX8_mix_48 rfl (lv_at hl 1 rfl) ?_
        refine va_get (D := D) (ci := 8) (v := .long (σ2.2 0 20)) (C := RX8) (T := TX8) (N := 32) hx hb hts hiX8 hown hK hP 0 wMg0 rfl 20 (by decide) (hts (.fieldLink RX8 139 "ArcGuesserModel" "bottom" "J") (List.mem_of_getElem? (i := 3) rfl)) (fun _ h9 => h9) rfl dX8_mix_49 ?_
        refine lv_lstore (lv' := [(10, .long (σ2.2 0 20)), (8, .long ((σ2.2 0 19) * ((σ2.1 7 (v7).toNatClampNeg)).toInt64)), (0, .ref (ad 0)), (1, .int p1), (2, .int p2), (3, .long v3), (5, .long v5), (7, .int v7)]) hx hb dX8_mix_52 hl (by decide) rfl (fun ls hl => ?_)
        refine lv_aload_n hx hb dX8_mix_54 rfl (lv_at hl 2 rfl) ?_
        refine lv_lload_n hx hb dX8_mix_55 rfl (lv_at hl 5 rfl) ?_
        refine lv_lload hx hb dX8_mix_56 (lv_at hl 6 rfl) ?_
        refine w_callv (va_runV (As := [.long v3, .long v5]) (rest := []) ⟨hx, hb, hml, hown, hts⟩ (mtX8_make l D ad cA A σ2 v3 v5 _ hq) (cwV 2 hts gX8_mix_X8_make rfl rfl rfl (by decide +kernel) ⟨Nat.le_of_ble_eq_true rfl, Nat.le_of_ble_eq_true rfl⟩) ⟨stW_blind nwM_ok, va_recv hK hP (ci := 8) (q0 := 0) rfl wMg0, stW_pass hA hS hN hK hP hD nwM_ok⟩ rfl rfl hl.1 rfl (lv_room (Nat.le_of_ble_eq_true rfl)) dX8_mix_58 ⟨Nat.le_of_ble_eq_true rfl, Nat.le_of_ble_eq_true rfl⟩) hS (fun σ3 H locs hq hP hD hS => ?_)
        refine lv_aload_n hx hb dX8_mix_61 rfl (lv_at hl 2 rfl) ?_
        refine lv_lload hx hb dX8_mix_62 (lv_at hl 1 rfl) ?_
        refine lv_lload hx hb dX8_mix_64 (lv_at hl 0 rfl) ?_
        refine w_callv (va_runV (As := [.long ((σ2.2 0 19) * ((σ2.1 7 (v7).toNatClampNeg)).toInt64), .long (σ2.2 0 20)]) (rest := []) ⟨hx, hb, hml, hown, hts⟩ (mtX8_plus l D ad cA A σ3 ((σ2.2 0 19) * ((σ2.1 7 (v7).toNatClampNeg)).toInt64) (σ2.2 0 20) _ hq) (cwV 2 hts gX8_mix_X8_plus rfl rfl rfl (by decide +kernel) ⟨Nat.le_of_ble_eq_true rfl, Nat.le_of_ble_eq_true rfl⟩) ⟨stW_blind nwM_ok, va_recv hK hP (ci := 8) (q0 := 0) rfl wMg0, stW_pass hA hS hN hK hP hD nwM_ok⟩ rfl rfl hl.1 rfl (lv_room (Nat.le_of_ble_eq_true rfl)) dX8_mix_66 ⟨Nat.le_of_ble_eq_true rfl, Nat.le_of_ble_eq_true rfl⟩) hS (fun σ4 H locs hq hP hD hS => ?_)
        refine lv_aload_n hx hb dX8_mix_69 rfl (lv_at hl 2 rfl) ?_
        refine va_get (D := D) (ci := 8) (v := .long (σ4.2 0 19)) (C := RX8) (T := TX8) (N := 32) hx hb hts hiX8 hown hK hP 0 wMg0 rfl 19 (by decide) (hts (.fieldLink RX8 136 "ArcGuesserModel" "top" "J") (List.mem_of_getElem? (i := 2) rfl)) (fun _ h9 => h9) rfl dX8_mix_70 ?_
        refine lv_lstore_n (lv' := [(3, .long (σ4.2 0 19)), (10, .long (σ2.2 0 20)), (8, .long ((σ2.2 0 19) * ((σ2.1 7 (v7).toNatClampNeg)).toInt64)), (0, .ref (ad 0)), (1, .int p1), (2, .int p2), (5, .long v5), (7, .int v7)]) hx hb dX8_mix_73 rfl hl (by decide) rfl (fun ls hl => ?_)
        refine lv_aload_n hx hb dX8_mix_74 rfl (lv_at hl 3 rfl) ?_
        refine va_get (D := D) (ci := 8) (v := .long (σ4.2 0 20)) (C := RX8) (T := TX8) (N := 32) hx hb hts hiX8 hown hK hP 0 wMg0 rfl 20 (by decide) (hts (.fieldLink RX8 139 "ArcGuesserModel" "bottom" "J") (List.mem_of_getElem? (i := 3) rfl)) (fun _ h9 => h9) rfl dX8_mix_75 ?_
        refine lv_lstore (lv' := [(5, .long (σ4.2 0 20)), (3, .long (σ4.2 0 19)), (10, .long (σ2.2 0 20)), (8, .long ((σ2.2 0 19) * ((σ2.1 7 (v7).toNatClampNeg)).toInt64)), (0, .ref (ad 0)), (1, .int p1), (2, .int p2), (7, .int v7)]) hx hb dX8_mix_78 hl (by decide) rfl (fun ls hl => ?_)
        refine lv_iinc (v := (v7 + (1 : Int32))) (lv' := [(7, .int (v7 + (1 : Int32))), (5, .long (σ4.2 0 20)), (3, .long (σ4.2 0 19)), (10, .long (σ2.2 0 20)), (8, .long ((σ2.2 0 19) * ((σ2.1 7 (v7).toNatClampNeg)).toInt64)), (0, .ref (ad 0)), (1, .int p1), (2, .int p2)]) hx hb dX8_mix_80 hl (k := 7) rfl (by rfl) (by decide) rfl (fun ls hl => ?_)
        refine lv_goto (tgt := 8) hx hb dX8_mix_83 (by decide) ?_
        rw [hK8] at hq
        exact hq _ _ _ hP hD hS (lv_sub hl [5, 6, 7, 2, 1, 0] rfl)
  have hq := hwp K8 hk8
  refine lv_lconst (v := (0 : Int64)) hx hb dX8_mix_0 (by decide) ?_
  refine lv_lstore_n (lv' := [(3, .long (0 : Int64)), (0, .ref (ad 0)), (1, .int p1), (2, .int p2)]) hx hb dX8_mix_1 rfl hl (by decide) rfl (fun ls hl => ?_)
  refine lv_lconst (v := (1 : Int64)) hx hb dX8_mix_2 (by decide) ?_
  refine lv_lstore (lv' := [(5, .long (1 : Int64)), (3, .long (0 : Int64)), (0, .ref (ad 0)), (1, .int p1), (2, .int p2)]) hx hb dX8_mix_3 hl (by decide) rfl (fun ls hl => ?_)
  refine lv_iconst (v := (0 : Int32)) hx hb dX8_mix_5 (by decide) ?_
  refine lv_istore (lv' := [(7, .int (0 : Int32)), (5, .long (1 : Int64)), (3, .long (0 : Int64)), (0, .ref (ad 0)), (1, .int p1), (2, .int p2)]) hx hb dX8_mix_6 hl (by decide) rfl (fun ls hl => ?_)
  rw [hK8] at hq
  exact hq _ _ _ hP hD hS (lv_sub hl [3, 4, 5, 2, 1, 0] rfl)
/-! ArcGuesserModel.compare(II)I -/
def X8_compare_wp (σ : Sto) (p1 : Int32) (p2 : Int32) (Post : Int32 → Sto → Prop) : Prop :=
  (vp_in p1 144 ∧ (vp_in p1 144 ∧ ((¬ (σ.2 15 (p1).toNatClampNeg) = 0) ∧ (vp_in p2 144 ∧ (vp_in p2 144 ∧ ((¬ (σ.2 15 (p2).toNatClampNeg) = 0) ∧ ((0 ≤ (lg_cmp ((σ.2 14 (p1).toNatClampNeg) * ((3226504881600 : Int64) / (σ.2 15 (p1).toNatClampNeg))) ((σ.2 14 (p2).toNatClampNeg) * ((3226504881600 : Int64) / (σ.2 15 (p2).toNatClampNeg)))) → (((lg_cmp ((σ.2 14 (p1).toNatClampNeg) * ((3226504881600 : Int64) / (σ.2 15 (p1).toNatClampNeg))) ((σ.2 14 (p2).toNatClampNeg) * ((3226504881600 : Int64) / (σ.2 15 (p2).toNatClampNeg)))) ≤ 0 → (Post (0 : Int32) σ)) ∧ (¬ (lg_cmp ((σ.2 14 (p1).toNatClampNeg) * ((3226504881600 : Int64) / (σ.2 15 (p1).toNatClampNeg))) ((σ.2 14 (p2).toNatClampNeg) * ((3226504881600 : Int64) / (σ.2 15 (p2).toNatClampNeg)))) ≤ 0 → (Post (1 : Int32) σ)))) ∧ (¬ 0 ≤ (lg_cmp ((σ.2 14 (p1).toNatClampNeg) * ((3226504881600 : Int64) / (σ.2 15 (p1).toNatClampNeg))) ((σ.2 14 (p2).toNatClampNeg) * ((3226504881600 : Int64) / (σ.2 15 (p2).toNatClampNeg)))) → (Post (-1 : Int32) σ)))))))))
set_option maxHeartbeats 4000000 in
set_option maxRecDepth 100000 in
theorem mtX8_compare (l : Launch) (D : va_G) (ad : Nat → Nat) (cA : Nat → ClassId) (A : Nat → Prop) (σ : Sto) (p1 : Int32) (p2 : Int32) (Post : Int32 → Sto → Prop) (hwp : X8_compare_wp σ p1 p2 Post) : Met l yX8_compare wsX8_compare ({ frames := 0, cells := 0, slots := 0, locals := 0 }) (va_Pc [.ref (ad 0), .int p1, .int p2] (stW D (tyM cA) nwM (wM ad cA) A σ)) (va_Qi Post (enW D (wM ad cA) A) A) 0 0 A := by
  refine Met.ofW (cc := cX8_compare) (maxL := 7) (ret := (some .int)) (by decide) rfl ?_
  intro p e s m args below meth c s₁ B hml hv
  obtain ⟨rfl, hA, hN, hP, hK, hD⟩ := hv
  have hx := B.exec
  have hb := B.bytes
  have hr := B.returns
  have hts := atoms_spec (ws := wsX8_compare) B.pre
  have hown : s.vm.findClass RX8 = some m.cls := findClass_of_methodNamed B.named
  have hlocks := B.notSynchronized
  have hiX8 : ∀ w ∈ wsX80, w ∈ wsX8_compare := by decide +kernel
  have hS : va_S A s.heap s.heap [] := va_S.rf
  have hl := lv_entry ([.ref (ad 0), .int p1, .int p2]) (n := 7) (Nat.le_of_ble_eq_true rfl)
  rw [lg_entry_eq]
  generalize (lg_sl ([.ref (ad 0), .int p1, .int p2]) ++ List.replicate (7 - (lg_sl ([.ref (ad 0), .int p1, .int p2])).length) Slot.unset).toArray = ls at hl ⊢
  have hl : lv_has ls 7 [(0, .ref (ad 0)), (1, .int p1), (2, .int p2)] := hl
  have hq := hwp
  unfold X8_compare_wp at hq
  refine lv_aload_n hx hb dX8_compare_0 rfl (lv_at hl 0 rfl) ?_
  refine va_get (D := D) (ci := 8) (v := .ref (ad 14)) (C := RX8) (T := TX8) (N := 32) hx hb hts hiX8 hown hK hP 0 wMg0 rfl 24 (by decide) (hts (.fieldLink RX8 68 "ArcGuesserModel" "tops" "[J") (List.mem_of_getElem? (i := 1) rfl)) (fun _ h9 => h9) rfl dX8_compare_1 ?_
  refine lv_iload_n hx hb dX8_compare_4 rfl (lv_at hl 1 rfl) ?_
  refine va_lald hx hb hK hP 14 1 wMg14 rfl hq.1 dX8_compare_5 ?_
  have hq := hq.2
  refine lv_ldc2 (v := (3226504881600 : Int64)) hx hb hown (hts (.constantLong RX8 194 (3226504881600)) (List.mem_of_getElem? (i := 2) rfl)) dX8_compare_6 ?_
  refine lv_aload_n hx hb dX8_compare_9 rfl (lv_at hl 0 rfl) ?_
  refine va_get (D := D) (ci := 8) (v := .ref (ad 15)) (C := RX8) (T := TX8) (N := 32) hx hb hts hiX8 hown hK hP 0 wMg0 rfl 25 (by decide) (hts (.fieldLink RX8 71 "ArcGuesserModel" "bottoms" "[J") (List.mem_of_getElem? (i := 3) rfl)) (fun _ h9 => h9) rfl dX8_compare_10 ?_
  refine lv_iload_n hx hb dX8_compare_13 rfl (lv_at hl 1 rfl) ?_
  refine va_lald hx hb hK hP 15 1 wMg15 rfl hq.1 dX8_compare_14 ?_
  have hq := hq.2
  refine lv_ldiv hx hb dX8_compare_15 hq.1 ?_
  have hq := hq.2
  refine lv_lmul hx hb dX8_compare_16 ?_
  refine lv_lstore_n (lv' := [(3, .long ((σ.2 14 (p1).toNatClampNeg) * ((3226504881600 : Int64) / (σ.2 15 (p1).toNatClampNeg)))), (0, .ref (ad 0)), (1, .int p1), (2, .int p2)]) hx hb dX8_compare_17 rfl hl (by decide) rfl (fun ls hl => ?_)
  refine lv_aload_n hx hb dX8_compare_18 rfl (lv_at hl 1 rfl) ?_
  refine va_get (D := D) (ci := 8) (v := .ref (ad 14)) (C := RX8) (T := TX8) (N := 32) hx hb hts hiX8 hown hK hP 0 wMg0 rfl 24 (by decide) (hts (.fieldLink RX8 68 "ArcGuesserModel" "tops" "[J") (List.mem_of_getElem? (i := 1) rfl)) (fun _ h9 => h9) rfl dX8_compare_19 ?_
  refine lv_iload_n hx hb dX8_compare_22 rfl (lv_at hl 3 rfl) ?_
  refine va_lald hx hb hK hP 14 1 wMg14 rfl hq.1 dX8_compare_23 ?_
  have hq := hq.2
  refine lv_ldc2 (v := (3226504881600 : Int64)) hx hb hown (hts (.constantLong RX8 194 (3226504881600)) (List.mem_of_getElem? (i := 2) rfl)) dX8_compare_24 ?_
  refine lv_aload_n hx hb dX8_compare_27 rfl (lv_at hl 1 rfl) ?_
  refine va_get (D := D) (ci := 8) (v := .ref (ad 15)) (C := RX8) (T := TX8) (N := 32) hx hb hts hiX8 hown hK hP 0 wMg0 rfl 25 (by decide) (hts (.fieldLink RX8 71 "ArcGuesserModel" "bottoms" "[J") (List.mem_of_getElem? (i := 3) rfl)) (fun _ h9 => h9) rfl dX8_compare_28 ?_
  refine lv_iload_n hx hb dX8_compare_31 rfl (lv_at hl 3 rfl) ?_
  refine va_lald hx hb hK hP 15 1 wMg15 rfl hq.1 dX8_compare_32 ?_
  have hq := hq.2
  refine lv_ldiv hx hb dX8_compare_33 hq.1 ?_
  have hq := hq.2
  refine lv_lmul hx hb dX8_compare_34 ?_
  refine lv_lstore (lv' := [(5, .long ((σ.2 14 (p2).toNatClampNeg) * ((3226504881600 : Int64) / (σ.2 15 (p2).toNatClampNeg)))), (3, .long ((σ.2 14 (p1).toNatClampNeg) * ((3226504881600 : Int64) / (σ.2 15 (p1).toNatClampNeg)))), (0, .ref (ad 0)), (1, .int p1), (2, .int p2)]) hx hb dX8_compare_35 hl (by decide) rfl (fun ls hl => ?_)
  refine lv_lload_n hx hb dX8_compare_37 rfl (lv_at hl 1 rfl) ?_
  refine lv_lload hx hb dX8_compare_38 (lv_at hl 0 rfl) ?_
  refine W.lcmp hx hb dX8_compare_40 ?_
  refine lv_if_ge (tgt := 48) hx hb dX8_compare_41 (by decide) (fun hc => ?_) (fun hc => ?_)
  · have hq := hq.1 hc
    refine lv_lload_n hx hb dX8_compare_48 rfl (lv_at hl 1 rfl) ?_
    refine lv_lload hx hb dX8_compare_49 (lv_at hl 0 rfl) ?_
    refine W.lcmp hx hb dX8_compare_51 ?_
    refine lv_if_le (tgt := 59) hx hb dX8_compare_52 (by decide) (fun hc => ?_) (fun hc => ?_)
    · have hq := hq.1 hc
      refine lv_iconst (v := (0 : Int32)) hx hb dX8_compare_59 (by decide) ?_
      exact W.iret (v := (0 : Int32)) hx hb hr (fun t ht hW => ⟨⟨(0 : Int32), σ, rfl, hq, by rw [ht]; exact hP, hD⟩, hS.F ht⟩) hS.2.2 dX8_compare_60
    · have hq := hq.2 hc
      refine lv_iconst (v := (1 : Int32)) hx hb dX8_compare_55 (by decide) ?_
      refine lv_goto (tgt := 60) hx hb dX8_compare_56 (by decide) ?_
      exact W.iret (v := (1 : Int32)) hx hb hr (fun t ht hW => ⟨⟨(1 : Int32), σ, rfl, hq, by rw [ht]; exact hP, hD⟩, hS.F ht⟩) hS.2.2 dX8_compare_60
  · have hq := hq.2 hc
    refine lv_iconst (v := (-1 : Int32)) hx hb dX8_compare_44 (by decide) ?_
    refine lv_goto (tgt := 60) hx hb dX8_compare_45 (by decide) ?_
    exact W.iret (v := (-1 : Int32)) hx hb hr (fun t ht hW => ⟨⟨(-1 : Int32), σ, rfl, hq, by rw [ht]; exact hP, hD⟩, hS.F ht⟩) hS.2.2 dX8_compare_60
/-! ArcGuesserModel.rank()I -/
def X8_rank_b4  (K4 : Sto → Int32 → Int32 → Prop) (K14 : Sto → Int32 → Int32 → Int32 → Prop) (K79 : Sto → Int32 → Int32 → Int32 → Int32 → Int32 → Prop) (Post : Int32 → Sto → Prop) (σ : Sto) (v1 : Int32) (v2 : Int32) : Prop :=
  (((σ.1 0 0) ≤ v2 → (Post v1 σ)) ∧ (¬ (σ.1 0 0) ≤ v2 → (K14 σ v1 v2 (0 : Int32))))
def X8_rank_b14  (K4 : Sto → Int32 → Int32 → Prop) (K14 : Sto → Int32 → Int32 → Int32 → Prop) (K79 : Sto → Int32 → Int32 → Int32 → Int32 → Int32 → Prop) (Post : Int32 → Sto → Prop) (σ : Sto) (v1 : Int32) (v2 : Int32) (v3 : Int32) : Prop :=
  (((σ.1 0 0) ≤ v3 → (K4 σ v1 (v2 + (1 : Int32)))) ∧ (¬ (σ.1 0 0) ≤ v3 → (X8_isPair_wp σ v2 v3 (fun r1 σ1 => ((r1 = 0 → (K14 σ1 v1 v2 (v3 + (1 : Int32)))) ∧ (¬ r1 = 0 → (X8_isCandidate_wp σ1 v2 v3 (fun r2 σ2 => ((r2 = 0 → (K14 σ2 v1 v2 (v3 + (1 : Int32)))) ∧ (¬ r2 = 0 → (X8_mix_wp σ2 v2 v3 (fun σ3 => (vp_in (((12 : Int32) * v2) + v3) 144 ∧ (vp_in (((12 : Int32) * v2) + v3) 144 ∧ (K79 (sJ (sJ σ3 14 ((((12 : Int32) * v2) + v3)).toNatClampNeg (σ3.2 0 19)) 15 ((((12 : Int32) * v2) + v3)).toNatClampNeg (σ3.2 0 20)) v1 v2 v3 (((12 : Int32) * v2) + v3) v1)))))))))))))))
def X8_rank_b79  (K4 : Sto → Int32 → Int32 → Prop) (K14 : Sto → Int32 → Int32 → Int32 → Prop) (K79 : Sto → Int32 → Int32 → Int32 → Int32 → Int32 → Prop) (Post : Int32 → Sto → Prop) (σ : Sto) (v1 : Int32) (v2 : Int32) (v3 : Int32) (v4 : Int32) (v5 : Int32) : Prop :=
  ((v5 ≤ 0 → (vp_in v5 132 ∧ (K14 (sI σ 13 (v5).toNatClampNeg v4) (v1 + (1 : Int32)) v2 (v3 + (1 : Int32))))) ∧ (¬ v5 ≤ 0 → (vp_in (v5 - (1 : Int32)) 132 ∧ (X8_compare_wp σ (σ.1 13 ((v5 - (1 : Int32))).toNatClampNeg) v4 (fun r1 σ1 => ((0 ≤ r1 → (vp_in v5 132 ∧ (K14 (sI σ1 13 (v5).toNatClampNeg v4) (v1 + (1 : Int32)) v2 (v3 + (1 : Int32))))) ∧ (¬ 0 ≤ r1 → (vp_in (v5 - (1 : Int32)) 132 ∧ (vp_in v5 132 ∧ (K79 (sI σ1 13 (v5).toNatClampNeg (σ1.1 13 ((v5 - (1 : Int32))).toNatClampNeg)) v1 v2 v3 v4 (v5 + (-1 : Int32))))))))))))
def X8_rank_wp (σ : Sto)  (Post : Int32 → Sto → Prop) : Prop := ∀ (K4 : Sto → Int32 → Int32 → Prop) (K14 : Sto → Int32 → Int32 → Int32 → Prop) (K79 : Sto → Int32 → Int32 → Int32 → Int32 → Int32 → Prop), (∀ (σ : Sto) (v1 : Int32) (v2 : Int32), X8_rank_b4  K4 K14 K79 Post σ v1 v2 → K4 σ v1 v2) → (∀ (σ : Sto) (v1 : Int32) (v2 : Int32) (v3 : Int32), X8_rank_b14  K4 K14 K79 Post σ v1 v2 v3 → K14 σ v1 v2 v3) → (∀ (σ : Sto) (v1 : Int32) (v2 : Int32) (v3 : Int32) (v4 : Int32) (v5 : Int32), X8_rank_b79  K4 K14 K79 Post σ v1 v2 v3 v4 v5 → K79 σ v1 v2 v3 v4 v5) → 
  (K4 σ (0 : Int32) (0 : Int32))
set_option maxHeartbeats 4000000 in
set_option maxRecDepth 100000 in
theorem mtX8_rank (l : Launch) (D : va_G) (ad : Nat → Nat) (cA : Nat → ClassId) (A : Nat → Prop) (σ : Sto)  (Post : Int32 → Sto → Prop) (hwp : X8_rank_wp σ  Post) : Met l yX8_rank wsX8_rank ({ frames := 7, cells := 0, slots := 0, locals := 191 }) (va_Pc [.ref (ad 0)] (stW D (tyM cA) nwM (wM ad cA) A σ)) (va_Qi Post (enW D (wM ad cA) A) A) 0 0 A := by
  refine Met.ofW (cc := cX8_rank) (maxL := 6) (ret := (some .int)) (by decide) rfl ?_
  intro p e s m args below meth c s₁ B hml hv
  obtain ⟨rfl, hA, hN, hP, hK, hD⟩ := hv
  have hx := B.exec
  have hb := B.bytes
  have hr := B.returns
  have hts := atoms_spec (ws := wsX8_rank) B.pre
  have hown : s.vm.findClass RX8 = some m.cls := findClass_of_methodNamed B.named
  have hlocks := B.notSynchronized
  have hiX8 : ∀ w ∈ wsX80, w ∈ wsX8_rank := by decide +kernel
  have hS : va_S A s.heap s.heap [] := va_S.rf
  have hl := lv_entry ([.ref (ad 0)]) (n := 6) (Nat.le_of_ble_eq_true rfl)
  rw [lg_entry_eq]
  generalize (lg_sl ([.ref (ad 0)]) ++ List.replicate (6 - (lg_sl ([.ref (ad 0)])).length) Slot.unset).toArray = ls at hl ⊢
  have hl : lv_has ls 6 [(0, .ref (ad 0))] := hl
  obtain ⟨K4, hK4⟩ : ∃ K : Sto → Int32 → Int32 → Prop, K = fun (σ : Sto) (v1 : Int32) (v2 : Int32) => ∀ (H : Heap) (locs : List Loc) (ls : Array Slot), va_P D vwCl ((wM ad cA) σ) H → va_D A ((wM ad cA) σ) → va_S A s.heap H locs → lv_has ls 6 [(0, .ref (ad 0)), (1, .int v1), (2, .int v2)] → W p l e (headSpec wsX8_rank ({ frames := 7, cells := 0, slots := 0, locals := 191 })).room s m ([.ref (ad 0)] : List Value).toArray below meth c H locs 0 0 (MQ below (va_Qi Post (enW D (wM ad cA) A) A) ([.ref (ad 0)] : List Value).toArray s 0 0 A) (F0 m 4 ls []) := ⟨_, rfl⟩
  obtain ⟨K14, hK14⟩ : ∃ K : Sto → Int32 → Int32 → Int32 → Prop, K = fun (σ : Sto) (v1 : Int32) (v2 : Int32) (v3 : Int32) => ∀ (H : Heap) (locs : List Loc) (ls : Array Slot), va_P D vwCl ((wM ad cA) σ) H → va_D A ((wM ad cA) σ) → va_S A s.heap H locs → lv_has ls 6 [(0, .ref (ad 0)), (1, .int v1), (2, .int v2), (3, .int v3)] → W p l e (headSpec wsX8_rank ({ frames := 7, cells := 0, slots := 0, locals := 191 })).room s m ([.ref (ad 0)] : List Value).toArray below meth c H locs 0 0 (MQ below (va_Qi Post (enW D (wM ad cA) A) A) ([.ref (ad 0)] : List Value).toArray s 0 0 A) (F0 m 14 ls []) := ⟨_, rfl⟩
  obtain ⟨K79, hK79⟩ : ∃ K : Sto → Int32 → Int32 → Int32 → Int32 → Int32 → Prop, K = fun (σ : Sto) (v1 : Int32) (v2 : Int32) (v3 : Int32) (v4 : Int32) (v5 : Int32) => ∀ (H : Heap) (locs : List Loc) (ls : Array Slot), va_P D vwCl ((wM ad cA) σ) H → va_D A ((wM ad cA) σ) → va_S A s.heap H locs → lv_has ls 6 [(0, .ref (ad 0)), (1, .int v1), (2, .int v2), (3, .int v3), (4, .int v4), (5, .int v5)] → W p l e (headSpec wsX8_rank ({ frames := 7, cells := 0, slots := 0, locals := 191 })).room s m ([.ref (ad 0)] : List Value).toArray below meth c H locs 0 0 (MQ below (va_Qi Post (enW D (wM ad cA) A) A) ([.ref (ad 0)] : List Value).toArray s 0 0 A) (F0 m 79 ls []) := ⟨_, rfl⟩
  have hk4 : ∀ (σ : Sto) (v1 : Int32) (v2 : Int32), X8_rank_b4  K4 K14 K79 Post σ v1 v2 → K4 σ v1 v2 := by
    intro σ v1 v2 hq
    rw [hK4]
    intro H locs ls hP hD hS hl
    unfold X8_rank_b4 at hq
    refine lv_iload_n hx hb dX8_rank_4 rfl (lv_at hl 2 rfl) ?_
    refine lv_aload_n hx hb dX8_rank_5 rfl (lv_at hl 0 rfl) ?_
    refine va_get (D := D) (ci := 8) (v := .int (σ.1 0 0)) (C := RX8) (T := TX8) (N := 32) hx hb hts hiX8 hown hK hP 0 wMg0 rfl 0 (by decide) (hts (.fieldLink RX8 7 "ArcGuesserModel" "n" "I") (List.mem_of_getElem? (i := 1) rfl)) (fun _ h9 => h9) rfl dX8_rank_6 ?_
    refine lv_icmp_ge (tgt := 148) hx hb dX8_rank_9 (by decide) (fun hc => ?_) (fun hc => ?_)
    · have hq := hq.1 hc
      refine lv_iload_n hx hb dX8_rank_148 rfl (lv_at hl 1 rfl) ?_
      exact W.iret (v := v1) hx hb hr (fun t ht hW => ⟨⟨v1, σ, rfl, hq, by rw [ht]; exact hP, hD⟩, hS.F ht⟩) hS.2.2 dX8_rank_149
    · have hq := hq.2 hc
      refine lv_iconst (v := (0 : Int32)) hx hb dX8_rank_12 (by decide) ?_
      refine lv_istore_n (lv' := [(3, .int (0 : Int32)), (0, .ref (ad 0)), (1, .int v1), (2, .int v2)]) hx hb dX8_rank_13 rfl hl (by decide) rfl (fun ls hl => ?_)
      rw [hK14] at hq
      exact hq _ _ _ hP hD hS (lv_sub hl [1, 2, 3, 0] rfl)
  have hk14 : ∀ (σ : Sto) (v1 : Int32) (v2 : Int32) (v3 : Int32), X8_rank_b14  K4 K14 K79 Post σ v1 v2 v3 → K14 σ v1 v2 v3 := by
    intro σ v1 v2 v3 hq
    rw [hK14]
    intro H locs ls hP hD hS hl
    unfold X8_rank_b14 at hq
    refine lv_iload_n hx hb dX8_rank_14 rfl (lv_at hl 3 rfl) ?_
    refine lv_aload_n hx hb dX8_rank_15 rfl (lv_at hl 0 rfl) ?_
    refine va_get (D := D) (ci := 8) (v := .int (σ.1 0 0)) (C := RX8) (T := TX8) (N := 32) hx hb hts hiX8 hown hK hP 0 wMg0 rfl 0 (by decide) (hts (.fieldLink RX8 7 "ArcGuesserModel" "n" "I") (List.mem_of_getElem? (i := 1) rfl)) (fun _ h9 => h9) rfl dX8_rank_16 ?_
    refine lv_icmp_ge (tgt := 142) hx hb dX8_rank_19 (by decide) (fun hc => ?_) (fun hc => ?_)
    · have hq := hq.1 hc
      refine lv_iinc (v := (v2 + (1 : Int32))) (lv' := [(2, .int (v2 + (1 : Int32))), (0, .ref (ad 0)), (1, .int v1), (3, .int v3)]) hx hb dX8_rank_142 hl (k := 2) rfl (by rfl) (by decide) rfl (fun ls hl => ?_)
      refine lv_goto (tgt := 4) hx hb dX8_rank_145 (by decide) ?_
      rw [hK4] at hq
      exact hq _ _ _ hP hD hS (lv_sub hl [1, 2, 0] rfl)
    · have hq := hq.2 hc
      refine lv_aload_n hx hb dX8_rank_22 rfl (lv_at hl 0 rfl) ?_
      refine lv_iload_n hx hb dX8_rank_23 rfl (lv_at hl 2 rfl) ?_
      refine lv_iload_n hx hb dX8_rank_24 rfl (lv_at hl 3 rfl) ?_
      refine w_calli (va_runV (As := [.int v2, .int v3]) (rest := []) ⟨hx, hb, hml, hown, hts⟩ (mtX8_isPair l D ad cA A σ v2 v3 _ hq) (cwV 2 hts gX8_rank_X8_isPair rfl rfl rfl (by decide +kernel) ⟨Nat.le_of_ble_eq_true rfl, Nat.le_of_ble_eq_true rfl⟩) ⟨stW_blind nwM_ok, va_recv hK hP (ci := 8) (q0 := 0) rfl wMg0, stW_pass hA hS hN hK hP hD nwM_ok⟩ rfl rfl hl.1 rfl (lv_room (Nat.le_of_ble_eq_true rfl)) dX8_rank_25 ⟨Nat.le_of_ble_eq_true rfl, Nat.le_of_ble_eq_true rfl⟩) hS (fun r1 σ1 H locs hq hP hD hS => ?_)
      refine lv_if_eq (tgt := 136) hx hb dX8_rank_28 (by decide) (fun hc => ?_) (fun hc => ?_)
      · have hq := hq.1 hc
        refine lv_iinc (v := (v3 + (1 : Int32))) (lv' := [(3, .int (v3 + (1 : Int32))), (0, .ref (ad 0)), (1, .int v1), (2, .int v2)]) hx hb dX8_rank_136 hl (k := 3) rfl (by rfl) (by decide) rfl (fun ls hl => ?_)
        refine lv_goto (tgt := 14) hx hb dX8_rank_139 (by decide) ?_
        rw [hK14] at hq
        exact hq _ _ _ hP hD hS (lv_sub hl [1, 2, 3, 0] rfl)
      · have hq := hq.2 hc
        refine lv_aload_n hx hb dX8_rank_31 rfl (lv_at hl 0 rfl) ?_
        refine lv_iload_n hx hb dX8_rank_32 rfl (lv_at hl 2 rfl) ?_
        refine lv_iload_n hx hb dX8_rank_33 rfl (lv_at hl 3 rfl) ?_
        refine w_calli (va_runV (As := [.int v2, .int v3]) (rest := []) ⟨hx, hb, hml, hown, hts⟩ (mtX8_isCandidate l D ad cA A σ1 v2 v3 _ hq) (cwV 2 hts gX8_rank_X8_isCandidate rfl rfl rfl (by decide +kernel) ⟨Nat.le_of_ble_eq_true rfl, Nat.le_of_ble_eq_true rfl⟩) ⟨stW_blind nwM_ok, va_recv hK hP (ci := 8) (q0 := 0) rfl wMg0, stW_pass hA hS hN hK hP hD nwM_ok⟩ rfl rfl hl.1 rfl (lv_room (Nat.le_of_ble_eq_true rfl)) dX8_rank_34 ⟨Nat.le_of_ble_eq_true rfl, Nat.le_of_ble_eq_true rfl⟩) hS (fun r2 σ2 H locs hq hP hD hS => ?_)
        refine lv_if_eq (tgt := 136) hx hb dX8_rank_37 (by decide) (fun hc => ?_) (fun hc => ?_)
        · have hq := hq.1 hc
          refine lv_iinc (v := (v3 + (1 : Int32))) (lv' := [(3, .int (v3 + (1 : Int32))), (0, .ref (ad 0)), (1, .int v1), (2, .int v2)]) hx hb dX8_rank_136 hl (k := 3) rfl (by rfl) (by decide) rfl (fun ls hl => ?_)
          refine lv_goto (tgt := 14) hx hb dX8_rank_139 (by decide) ?_
          rw [hK14] at hq
          exact hq _ _ _ hP hD hS (lv_sub hl [1, 2, 3, 0] rfl)
        · have hq := hq.2 hc
          refine lv_bipush (v := (12 : Int32)) hx hb dX8_rank_40 (by decide) ?_
          refine lv_iload_n hx hb dX8_rank_42 rfl (lv_at hl 2 rfl) ?_
          refine lv_imul hx hb dX8_rank_43 ?_
          refine lv_iload_n hx hb dX8_rank_44 rfl (lv_at hl 3 rfl) ?_
          refine lv_iadd hx hb dX8_rank_45 ?_
          refine lv_istore (lv' := [(4, .int (((12 : Int32) * v2) + v3)), (0, .ref (ad 0)), (1, .int v1), (2, .int v2), (3, .int v3)]) hx hb dX8_rank_46 hl (by decide) rfl (fun ls hl => ?_)
          refine lv_aload_n hx hb dX8_rank_48 rfl (lv_at hl 1 rfl) ?_
          refine lv_iload_n hx hb dX8_rank_49 rfl (lv_at hl 3 rfl) ?_
          refine lv_iload_n hx hb dX8_rank_50 rfl (lv_at hl 4 rfl) ?_
          refine w_callv (va_runV (As := [.int v2, .int v3]) (rest := []) ⟨hx, hb, hml, hown, hts⟩ (mtX8_mix l D ad cA A σ2 v2 v3 _ hq) (cwV 2 hts gX8_rank_X8_mix rfl rfl rfl (by decide +kernel) ⟨Nat.le_of_ble_eq_true rfl, Nat.le_of_ble_eq_true rfl⟩) ⟨stW_blind nwM_ok, va_recv hK hP (ci := 8) (q0 := 0) rfl wMg0, stW_pass hA hS hN hK hP hD nwM_ok⟩ rfl rfl hl.1 rfl (lv_room (Nat.le_of_ble_eq_true rfl)) dX8_rank_51 ⟨Nat.le_of_ble_eq_true rfl, Nat.le_of_ble_eq_true rfl⟩) hS (fun σ3 H locs hq hP hD hS => ?_)
          refine lv_aload_n hx hb dX8_rank_54 rfl (lv_at hl 1 rfl) ?_
          refine va_get (D := D) (ci := 8) (v := .ref (ad 14)) (C := RX8) (T := TX8) (N := 32) hx hb hts hiX8 hown hK hP 0 wMg0 rfl 24 (by decide) (hts (.fieldLink RX8 68 "ArcGuesserModel" "tops" "[J") (List.mem_of_getElem? (i := 2) rfl)) (fun _ h9 => h9) rfl dX8_rank_55 ?_
          refine lv_iload hx hb dX8_rank_58 (lv_at hl 0 rfl) ?_
          refine lv_aload_n hx hb dX8_rank_60 rfl (lv_at hl 1 rfl) ?_
          refine va_get (D := D) (ci := 8) (v := .long (σ3.2 0 19)) (C := RX8) (T := TX8) (N := 32) hx hb hts hiX8 hown hK hP 0 wMg0 rfl 19 (by decide) (hts (.fieldLink RX8 136 "ArcGuesserModel" "top" "J") (List.mem_of_getElem? (i := 3) rfl)) (fun _ h9 => h9) rfl dX8_rank_61 ?_
          refine va_last hx hb hK hP hD hS 14 1 wMg14 rfl hq.1 dX8_rank_64 (fun H locs hP hD hS => ?_)
          have hP := wMsP14 hP
          have hD := wMsD14 hD
          have hq := hq.2
          refine lv_aload_n hx hb dX8_rank_65 rfl (lv_at hl 1 rfl) ?_
          refine va_get (D := D) (ci := 8) (v := .ref (ad 15)) (C := RX8) (T := TX8) (N := 32) hx hb hts hiX8 hown hK hP 0 wMg0 rfl 25 (by decide) (hts (.fieldLink RX8 71 "ArcGuesserModel" "bottoms" "[J") (List.mem_of_getElem? (i := 4) rfl)) (fun _ h9 => h9) rfl dX8_rank_66 ?_
          refine lv_iload hx hb dX8_rank_69 (lv_at hl 0 rfl) ?_
          refine lv_aload_n hx hb dX8_rank_71 rfl (lv_at hl 1 rfl) ?_
          refine va_get (D := D) (ci := 8) (v := .long (σ3.2 0 20)) (C := RX8) (T := TX8) (N := 32) hx hb hts hiX8 hown hK hP 0 wMg0 rfl 20 (by decide) (hts (.fieldLink RX8 139 "ArcGuesserModel" "bottom" "J") (List.mem_of_getElem? (i := 5) rfl)) (fun _ h9 => h9) rfl dX8_rank_72 ?_
          refine va_last hx hb hK hP hD hS 15 1 wMg15 rfl hq.1 dX8_rank_75 (fun H locs hP hD hS => ?_)
          have hP := wMsP15 hP
          have hD := wMsD15 hD
          have hq := hq.2
          refine lv_iload_n hx hb dX8_rank_76 rfl (lv_at hl 2 rfl) ?_
          refine lv_istore (lv' := [(5, .int v1), (4, .int (((12 : Int32) * v2) + v3)), (0, .ref (ad 0)), (1, .int v1), (2, .int v2), (3, .int v3)]) hx hb dX8_rank_77 hl (by decide) rfl (fun ls hl => ?_)
          rw [hK79] at hq
          exact hq _ _ _ hP hD hS (lv_sub hl [2, 3, 4, 5, 1, 0] rfl)
  have hk79 : ∀ (σ : Sto) (v1 : Int32) (v2 : Int32) (v3 : Int32) (v4 : Int32) (v5 : Int32), X8_rank_b79  K4 K14 K79 Post σ v1 v2 v3 v4 v5 → K79 σ v1 v2 v3 v4 v5 := by
    intro σ v1 v2 v3 v4 v5 hq
    rw [hK79]
    intro H locs ls hP hD hS hl
    unfold X8_rank_b79 at hq
    refine lv_iload hx hb dX8_rank_79 (lv_at hl 5 rfl) ?_
    refine lv_if_le (tgt := 124) hx hb dX8_rank_81 (by decide) (fun hc => ?_) (fun hc => ?_)
    · have hq := hq.1 hc
      refine lv_aload_n hx hb dX8_rank_124 rfl (lv_at hl 0 rfl) ?_
      refine va_get (D := D) (ci := 8) (v := .ref (ad 13)) (C := RX8) (T := TX8) (N := 32) hx hb hts hiX8 hown hK hP 0 wMg0 rfl 23 (by decide) (hts (.fieldLink RX8 65 "ArcGuesserModel" "order" "[I") (List.mem_of_getElem? (i := 6) rfl)) (fun _ h9 => h9) rfl dX8_rank_125 ?_
      refine lv_iload hx hb dX8_rank_128 (lv_at hl 5 rfl) ?_
      refine lv_iload hx hb dX8_rank_130 (lv_at hl 4 rfl) ?_
      refine va_iast hx hb hK hP hD hS 13 0 wMg13 rfl hq.1 dX8_rank_132 (fun H locs hP hD hS => ?_)
      have hP := wMsP13 hP
      have hD := wMsD13 hD
      have hq := hq.2
      refine lv_iinc (v := (v1 + (1 : Int32))) (lv' := [(1, .int (v1 + (1 : Int32))), (0, .ref (ad 0)), (2, .int v2), (3, .int v3), (4, .int v4), (5, .int v5)]) hx hb dX8_rank_133 hl (k := 1) rfl (by rfl) (by decide) rfl (fun ls hl => ?_)
      refine lv_iinc (v := (v3 + (1 : Int32))) (lv' := [(3, .int (v3 + (1 : Int32))), (1, .int (v1 + (1 : Int32))), (0, .ref (ad 0)), (2, .int v2), (4, .int v4), (5, .int v5)]) hx hb dX8_rank_136 hl (k := 3) rfl (by rfl) (by decide) rfl (fun ls hl => ?_)
      refine lv_goto (tgt := 14) hx hb dX8_rank_139 (by decide) ?_
      rw [hK14] at hq
      exact hq _ _ _ hP hD hS (lv_sub hl [2, 1, 3, 0] rfl)
    · have hq := hq.2 hc
      refine lv_aload_n hx hb dX8_rank_84 rfl (lv_at hl 0 rfl) ?_
      refine lv_aload_n hx hb dX8_rank_85 rfl (lv_at hl 0 rfl) ?_
      refine va_get (D := D) (ci := 8) (v := .ref (ad 13)) (C := RX8) (T := TX8) (N := 32) hx hb hts hiX8 hown hK hP 0 wMg0 rfl 23 (by decide) (hts (.fieldLink RX8 65 "ArcGuesserModel" "order" "[I") (List.mem_of_getElem? (i := 6) rfl)) (fun _ h9 => h9) rfl dX8_rank_86 ?_
      refine lv_iload hx hb dX8_rank_89 (lv_at hl 5 rfl) ?_
      refine lv_iconst (v := (1 : Int32)) hx hb dX8_rank_91 (by decide) ?_
      refine lv_isub hx hb dX8_rank_92 ?_
      refine va_iald hx hb hK hP 13 0 wMg13 rfl hq.1 dX8_rank_93 ?_
      have hq := hq.2
      refine lv_iload hx hb dX8_rank_94 (lv_at hl 4 rfl) ?_
      refine w_calli (va_runV (As := [.int (σ.1 13 ((v5 - (1 : Int32))).toNatClampNeg), .int v4]) (rest := []) ⟨hx, hb, hml, hown, hts⟩ (mtX8_compare l D ad cA A σ (σ.1 13 ((v5 - (1 : Int32))).toNatClampNeg) v4 _ hq) (cwV 2 hts gX8_rank_X8_compare rfl rfl rfl (by decide +kernel) ⟨Nat.le_of_ble_eq_true rfl, Nat.le_of_ble_eq_true rfl⟩) ⟨stW_blind nwM_ok, va_recv hK hP (ci := 8) (q0 := 0) rfl wMg0, stW_pass hA hS hN hK hP hD nwM_ok⟩ rfl rfl hl.1 rfl (lv_room (Nat.le_of_ble_eq_true rfl)) dX8_rank_96 ⟨Nat.le_of_ble_eq_true rfl, Nat.le_of_ble_eq_true rfl⟩) hS (fun r1 σ1 H locs hq hP hD hS => ?_)
      refine lv_if_ge (tgt := 124) hx hb dX8_rank_99 (by decide) (fun hc => ?_) (fun hc => ?_)
      · have hq := hq.1 hc
        refine lv_aload_n hx hb dX8_rank_124 rfl (lv_at hl 0 rfl) ?_
        refine va_get (D := D) (ci := 8) (v := .ref (ad 13)) (C := RX8) (T := TX8) (N := 32) hx hb hts hiX8 hown hK hP 0 wMg0 rfl 23 (by decide) (hts (.fieldLink RX8 65 "ArcGuesserModel" "order" "[I") (List.mem_of_getElem? (i := 6) rfl)) (fun _ h9 => h9) rfl dX8_rank_125 ?_
        refine lv_iload hx hb dX8_rank_128 (lv_at hl 5 rfl) ?_
        refine lv_iload hx hb dX8_rank_130 (lv_at hl 4 rfl) ?_
        refine va_iast hx hb hK hP hD hS 13 0 wMg13 rfl hq.1 dX8_rank_132 (fun H locs hP hD hS => ?_)
        have hP := wMsP13 hP
        have hD := wMsD13 hD
        have hq := hq.2
        refine lv_iinc (v := (v1 + (1 : Int32))) (lv' := [(1, .int (v1 + (1 : Int32))), (0, .ref (ad 0)), (2, .int v2), (3, .int v3), (4, .int v4), (5, .int v5)]) hx hb dX8_rank_133 hl (k := 1) rfl (by rfl) (by decide) rfl (fun ls hl => ?_)
        refine lv_iinc (v := (v3 + (1 : Int32))) (lv' := [(3, .int (v3 + (1 : Int32))), (1, .int (v1 + (1 : Int32))), (0, .ref (ad 0)), (2, .int v2), (4, .int v4), (5, .int v5)]) hx hb dX8_rank_136 hl (k := 3) rfl (by rfl) (by decide) rfl (fun ls hl => ?_)
        refine lv_goto (tgt := 14) hx hb dX8_rank_139 (by decide) ?_
        rw [hK14] at hq
        exact hq _ _ _ hP hD hS (lv_sub hl [2, 1, 3, 0] rfl)
      · have hq := hq.2 hc
        refine lv_aload_n hx hb dX8_rank_102 rfl (lv_at hl 0 rfl) ?_
        refine va_get (D := D) (ci := 8) (v := .ref (ad 13)) (C := RX8) (T := TX8) (N := 32) hx hb hts hiX8 hown hK hP 0 wMg0 rfl 23 (by decide) (hts (.fieldLink RX8 65 "ArcGuesserModel" "order" "[I") (List.mem_of_getElem? (i := 6) rfl)) (fun _ h9 => h9) rfl dX8_rank_103 ?_
        refine lv_iload hx hb dX8_rank_106 (lv_at hl 5 rfl) ?_
        refine lv_aload_n hx hb dX8_rank_108 rfl (lv_at hl 0 rfl) ?_
        refine va_get (D := D) (ci := 8) (v := .ref (ad 13)) (C := RX8) (T := TX8) (N := 32) hx hb hts hiX8 hown hK hP 0 wMg0 rfl 23 (by decide) (hts (.fieldLink RX8 65 "ArcGuesserModel" "order" "[I") (List.mem_of_getElem? (i := 6) rfl)) (fun _ h9 => h9) rfl dX8_rank_109 ?_
        refine lv_iload hx hb dX8_rank_112 (lv_at hl 5 rfl) ?_
        refine lv_iconst (v := (1 : Int32)) hx hb dX8_rank_114 (by decide) ?_
        refine lv_isub hx hb dX8_rank_115 ?_
        refine va_iald hx hb hK hP 13 0 wMg13 rfl hq.1 dX8_rank_116 ?_
        have hq := hq.2
        refine va_iast hx hb hK hP hD hS 13 0 wMg13 rfl hq.1 dX8_rank_117 (fun H locs hP hD hS => ?_)
        have hP := wMsP13 hP
        have hD := wMsD13 hD
        have hq := hq.2
        refine lv_iinc (v := (v5 + (-1 : Int32))) (lv' := [(5, .int (v5 + (-1 : Int32))), (0, .ref (ad 0)), (1, .int v1), (2, .int v2), (3, .int v3), (4, .int v4)]) hx hb dX8_rank_118 hl (k := 5) rfl (by rfl) (by decide) rfl (fun ls hl => ?_)
        refine lv_goto (tgt := 79) hx hb dX8_rank_121 (by decide) ?_
        rw [hK79] at hq
        exact hq _ _ _ hP hD hS (lv_sub hl [1, 2, 3, 4, 5, 0] rfl)
  have hq := hwp K4 K14 K79 hk4 hk14 hk79
  refine lv_iconst (v := (0 : Int32)) hx hb dX8_rank_0 (by decide) ?_
  refine lv_istore_n (lv' := [(1, .int (0 : Int32)), (0, .ref (ad 0))]) hx hb dX8_rank_1 rfl hl (by decide) rfl (fun ls hl => ?_)
  refine lv_iconst (v := (0 : Int32)) hx hb dX8_rank_2 (by decide) ?_
  refine lv_istore_n (lv' := [(2, .int (0 : Int32)), (1, .int (0 : Int32)), (0, .ref (ad 0))]) hx hb dX8_rank_3 rfl hl (by decide) rfl (fun ls hl => ?_)
  rw [hK4] at hq
  exact hq _ _ _ hP hD hS (lv_sub hl [2, 1, 0] rfl)
/-! ArcGuesserModel.isFound(II)Z -/
def X8_isFound_wp (σ : Sto) (p1 : Int32) (p2 : Int32) (Post : Int32 → Sto → Prop) : Prop :=
  (vp_in (((12 : Int32) * p1) + p2) 144 ∧ (((σ.1 1 ((((12 : Int32) * p1) + p2)).toNatClampNeg) ≤ 0 → (Post (0 : Int32) σ)) ∧ (¬ (σ.1 1 ((((12 : Int32) * p1) + p2)).toNatClampNeg) ≤ 0 → (vp_in ((σ.1 1 ((((12 : Int32) * p1) + p2)).toNatClampNeg) - (1 : Int32)) 132 ∧ (((σ.1 5 (((σ.1 1 ((((12 : Int32) * p1) + p2)).toNatClampNeg) - (1 : Int32))).toNatClampNeg) = 0 → (Post (0 : Int32) σ)) ∧ (¬ (σ.1 5 (((σ.1 1 ((((12 : Int32) * p1) + p2)).toNatClampNeg) - (1 : Int32))).toNatClampNeg) = 0 → (Post (1 : Int32) σ)))))))
set_option maxHeartbeats 4000000 in
set_option maxRecDepth 100000 in
theorem mtX8_isFound (l : Launch) (D : va_G) (ad : Nat → Nat) (cA : Nat → ClassId) (A : Nat → Prop) (σ : Sto) (p1 : Int32) (p2 : Int32) (Post : Int32 → Sto → Prop) (hwp : X8_isFound_wp σ p1 p2 Post) : Met l yX8_isFound wsX8_isFound ({ frames := 0, cells := 0, slots := 0, locals := 0 }) (va_Pc [.ref (ad 0), .int p1, .int p2] (stW D (tyM cA) nwM (wM ad cA) A σ)) (va_Qi Post (enW D (wM ad cA) A) A) 0 0 A := by
  refine Met.ofW (cc := cX8_isFound) (maxL := 4) (ret := (some .boolean)) (by decide) rfl ?_
  intro p e s m args below meth c s₁ B hml hv
  obtain ⟨rfl, hA, hN, hP, hK, hD⟩ := hv
  have hx := B.exec
  have hb := B.bytes
  have hr := B.returns
  have hts := atoms_spec (ws := wsX8_isFound) B.pre
  have hown : s.vm.findClass RX8 = some m.cls := findClass_of_methodNamed B.named
  have hlocks := B.notSynchronized
  have hiX8 : ∀ w ∈ wsX80, w ∈ wsX8_isFound := by decide +kernel
  have hS : va_S A s.heap s.heap [] := va_S.rf
  have hl := lv_entry ([.ref (ad 0), .int p1, .int p2]) (n := 4) (Nat.le_of_ble_eq_true rfl)
  rw [lg_entry_eq]
  generalize (lg_sl ([.ref (ad 0), .int p1, .int p2]) ++ List.replicate (4 - (lg_sl ([.ref (ad 0), .int p1, .int p2])).length) Slot.unset).toArray = ls at hl ⊢
  have hl : lv_has ls 4 [(0, .ref (ad 0)), (1, .int p1), (2, .int p2)] := hl
  have hq := hwp
  unfold X8_isFound_wp at hq
  refine lv_aload_n hx hb dX8_isFound_0 rfl (lv_at hl 0 rfl) ?_
  refine va_get (D := D) (ci := 8) (v := .ref (ad 1)) (C := RX8) (T := TX8) (N := 32) hx hb hts hiX8 hown hK hP 0 wMg0 rfl 2 (by decide) (hts (.fieldLink RX8 13 "ArcGuesserModel" "arcAt" "[I") (List.mem_of_getElem? (i := 1) rfl)) (fun _ h9 => h9) rfl dX8_isFound_1 ?_
  refine lv_bipush (v := (12 : Int32)) hx hb dX8_isFound_4 (by decide) ?_
  refine lv_iload_n hx hb dX8_isFound_6 rfl (lv_at hl 1 rfl) ?_
  refine lv_imul hx hb dX8_isFound_7 ?_
  refine lv_iload_n hx hb dX8_isFound_8 rfl (lv_at hl 2 rfl) ?_
  refine lv_iadd hx hb dX8_isFound_9 ?_
  refine va_iald hx hb hK hP 1 0 wMg1 rfl hq.1 dX8_isFound_10 ?_
  have hq := hq.2
  refine lv_istore_n (lv' := [(3, .int (σ.1 1 ((((12 : Int32) * p1) + p2)).toNatClampNeg)), (0, .ref (ad 0)), (1, .int p1), (2, .int p2)]) hx hb dX8_isFound_11 rfl hl (by decide) rfl (fun ls hl => ?_)
  refine lv_iload_n hx hb dX8_isFound_12 rfl (lv_at hl 0 rfl) ?_
  refine lv_if_le (tgt := 31) hx hb dX8_isFound_13 (by decide) (fun hc => ?_) (fun hc => ?_)
  · have hq := hq.1 hc
    refine lv_iconst (v := (0 : Int32)) hx hb dX8_isFound_31 (by decide) ?_
    exact W.zret (v := (0 : Int32)) hx hb hr rfl (fun t ht hW => ⟨⟨(0 : Int32), σ, rfl, hq, by rw [ht]; exact hP, hD⟩, hS.F ht⟩) hS.2.2 dX8_isFound_32
  · have hq := hq.2 hc
    refine lv_aload_n hx hb dX8_isFound_16 rfl (lv_at hl 1 rfl) ?_
    refine va_get (D := D) (ci := 8) (v := .ref (ad 5)) (C := RX8) (T := TX8) (N := 32) hx hb hts hiX8 hown hK hP 0 wMg0 rfl 6 (by decide) (hts (.fieldLink RX8 26 "ArcGuesserModel" "hidden" "[Z") (List.mem_of_getElem? (i := 2) rfl)) (fun _ h9 => h9) rfl dX8_isFound_17 ?_
    refine lv_iload_n hx hb dX8_isFound_20 rfl (lv_at hl 0 rfl) ?_
    refine lv_iconst (v := (1 : Int32)) hx hb dX8_isFound_21 (by decide) ?_
    refine lv_isub hx hb dX8_isFound_22 ?_
    refine va_zald hx hb hK hP 5 2 wMg5 rfl hq.1 dX8_isFound_23 ?_
    have hq := hq.2
    refine lv_if_eq (tgt := 31) hx hb dX8_isFound_24 (by decide) (fun hc => ?_) (fun hc => ?_)
    · have hq := hq.1 hc
      refine lv_iconst (v := (0 : Int32)) hx hb dX8_isFound_31 (by decide) ?_
      exact W.zret (v := (0 : Int32)) hx hb hr rfl (fun t ht hW => ⟨⟨(0 : Int32), σ, rfl, hq, by rw [ht]; exact hP, hD⟩, hS.F ht⟩) hS.2.2 dX8_isFound_32
    · have hq := hq.2 hc
      refine lv_iconst (v := (1 : Int32)) hx hb dX8_isFound_27 (by decide) ?_
      refine lv_goto (tgt := 32) hx hb dX8_isFound_28 (by decide) ?_
      exact W.zret (v := (1 : Int32)) hx hb hr rfl (fun t ht hW => ⟨⟨(1 : Int32), σ, rfl, hq, by rw [ht]; exact hP, hD⟩, hS.F ht⟩) hS.2.2 dX8_isFound_32
/-! ArcGuesserModel.among(I)I -/
def X8_among_b22 (p1 : Int32) (K22 : Sto → Int32 → Int32 → Prop) (Post : Int32 → Sto → Prop) (σ : Sto) (v3 : Int32) (v4 : Int32) : Prop :=
  ((p1 ≤ v4 → (Post v3 σ)) ∧ (¬ p1 ≤ v4 → (vp_in v4 132 ∧ (vp_in v4 132 ∧ (X8_isFound_wp σ ((σ.1 13 (v4).toNatClampNeg) / (12 : Int32)) ((σ.1 13 (v4).toNatClampNeg) - (σ.1 13 (v4).toNatClampNeg) / (12 : Int32) * (12 : Int32)) (fun r1 σ1 => ((r1 = 0 → (K22 σ1 (v3 + (0 : Int32)) (v4 + (1 : Int32)))) ∧ (¬ r1 = 0 → (K22 σ1 (v3 + (1 : Int32)) (v4 + (1 : Int32)))))))))))
def X8_among_wp (σ : Sto) (p1 : Int32) (Post : Int32 → Sto → Prop) : Prop := ∀ (K22 : Sto → Int32 → Int32 → Prop), (∀ (σ : Sto) (v3 : Int32) (v4 : Int32), X8_among_b22 p1 K22 Post σ v3 v4 → K22 σ v3 v4) → 
  (X8_rank_wp σ  (fun r1 σ1 => ((p1 < 0 → (Post (-2 : Int32) σ1)) ∧ (¬ p1 < 0 → ((p1 ≤ r1 → (K22 σ1 (0 : Int32) (0 : Int32))) ∧ (¬ p1 ≤ r1 → (Post (-2 : Int32) σ1)))))))
set_option maxHeartbeats 4000000 in
set_option maxRecDepth 100000 in
theorem mtX8_among (l : Launch) (D : va_G) (ad : Nat → Nat) (cA : Nat → ClassId) (A : Nat → Prop) (σ : Sto) (p1 : Int32) (Post : Int32 → Sto → Prop) (hwp : X8_among_wp σ p1 Post) : Met l yX8_among wsX8_among ({ frames := 8, cells := 0, slots := 0, locals := 216 }) (va_Pc [.ref (ad 0), .int p1] (stW D (tyM cA) nwM (wM ad cA) A σ)) (va_Qi Post (enW D (wM ad cA) A) A) 0 0 A := by
  refine Met.ofW (cc := cX8_among) (maxL := 5) (ret := (some .int)) (by decide) rfl ?_
  intro p e s m args below meth c s₁ B hml hv
  obtain ⟨rfl, hA, hN, hP, hK, hD⟩ := hv
  have hx := B.exec
  have hb := B.bytes
  have hr := B.returns
  have hts := atoms_spec (ws := wsX8_among) B.pre
  have hown : s.vm.findClass RX8 = some m.cls := findClass_of_methodNamed B.named
  have hlocks := B.notSynchronized
  have hiX8 : ∀ w ∈ wsX80, w ∈ wsX8_among := by decide +kernel
  have hS : va_S A s.heap s.heap [] := va_S.rf
  have hl := lv_entry ([.ref (ad 0), .int p1]) (n := 5) (Nat.le_of_ble_eq_true rfl)
  rw [lg_entry_eq]
  generalize (lg_sl ([.ref (ad 0), .int p1]) ++ List.replicate (5 - (lg_sl ([.ref (ad 0), .int p1])).length) Slot.unset).toArray = ls at hl ⊢
  have hl : lv_has ls 5 [(0, .ref (ad 0)), (1, .int p1)] := hl
  obtain ⟨K22, hK22⟩ : ∃ K : Sto → Int32 → Int32 → Prop, K = fun (σ : Sto) (v3 : Int32) (v4 : Int32) => ∀ (H : Heap) (locs : List Loc) (ls : Array Slot), va_P D vwCl ((wM ad cA) σ) H → va_D A ((wM ad cA) σ) → va_S A s.heap H locs → lv_has ls 5 [(0, .ref (ad 0)), (1, .int p1), (3, .int v3), (4, .int v4)] → W p l e (headSpec wsX8_among ({ frames := 8, cells := 0, slots := 0, locals := 216 })).room s m ([.ref (ad 0), .int p1] : List Value).toArray below meth c H locs 0 0 (MQ below (va_Qi Post (enW D (wM ad cA) A) A) ([.ref (ad 0), .int p1] : List Value).toArray s 0 0 A) (F0 m 22 ls []) := ⟨_, rfl⟩
  have hk22 : ∀ (σ : Sto) (v3 : Int32) (v4 : Int32), X8_among_b22 p1 K22 Post σ v3 v4 → K22 σ v3 v4 := by
    intro σ v3 v4 hq
    rw [hK22]
    intro H locs ls hP hD hS hl
    unfold X8_among_b22 at hq
    refine lv_iload hx hb dX8_among_22 (lv_at hl 3 rfl) ?_
    refine lv_iload_n hx hb dX8_among_24 rfl (lv_at hl 1 rfl) ?_
    refine lv_icmp_ge (tgt := 69) hx hb dX8_among_25 (by decide) (fun hc => ?_) (fun hc => ?_)
    · have hq := hq.1 hc
      refine lv_iload_n hx hb dX8_among_69 rfl (lv_at hl 2 rfl) ?_
      exact W.iret (v := v3) hx hb hr (fun t ht hW => ⟨⟨v3, σ, rfl, hq, by rw [ht]; exact hP, hD⟩, hS.F ht⟩) hS.2.2 dX8_among_70
    · have hq := hq.2 hc
      refine lv_iload_n hx hb dX8_among_28 rfl (lv_at hl 2 rfl) ?_
      refine lv_aload_n hx hb dX8_among_29 rfl (lv_at hl 0 rfl) ?_
      refine lv_aload_n hx hb dX8_among_30 rfl (lv_at hl 0 rfl) ?_
      refine va_get (D := D) (ci := 8) (v := .ref (ad 13)) (C := RX8) (T := TX8) (N := 32) hx hb hts hiX8 hown hK hP 0 wMg0 rfl 23 (by decide) (hts (.fieldLink RX8 65 "ArcGuesserModel" "order" "[I") (List.mem_of_getElem? (i := 1) rfl)) (fun _ h9 => h9) rfl dX8_among_31 ?_
      refine lv_iload hx hb dX8_among_34 (lv_at hl 3 rfl) ?_
      refine va_iald hx hb hK hP 13 0 wMg13 rfl hq.1 dX8_among_36 ?_
      have hq := hq.2
      refine lv_bipush (v := (12 : Int32)) hx hb dX8_among_37 (by decide) ?_
      refine lv_idiv hx hb dX8_among_39 (by decide) ?_
      refine lv_aload_n hx hb dX8_among_40 rfl (lv_at hl 0 rfl) ?_
      refine va_get (D := D) (ci := 8) (v := .ref (ad 13)) (C := RX8) (T := TX8) (N := 32) hx hb hts hiX8 hown hK hP 0 wMg0 rfl 23 (by decide) (hts (.fieldLink RX8 65 "ArcGuesserModel" "order" "[I") (List.mem_of_getElem? (i := 1) rfl)) (fun _ h9 => h9) rfl dX8_among_41 ?_
      refine lv_iload hx hb dX8_among_44 (lv_at hl 3 rfl) ?_
      refine va_iald hx hb hK hP 13 0 wMg13 rfl hq.1 dX8_among_46 ?_
      have hq := hq.2
      refine lv_bipush (v := (12 : Int32)) hx hb dX8_among_47 (by decide) ?_
      refine lv_irem hx hb dX8_among_49 (by decide) ?_
      refine w_calli (va_runV (As := [.int ((σ.1 13 (v4).toNatClampNeg) / (12 : Int32)), .int ((σ.1 13 (v4).toNatClampNeg) - (σ.1 13 (v4).toNatClampNeg) / (12 : Int32) * (12 : Int32))]) (rest := [.int v3]) ⟨hx, hb, hml, hown, hts⟩ (mtX8_isFound l D ad cA A σ ((σ.1 13 (v4).toNatClampNeg) / (12 : Int32)) ((σ.1 13 (v4).toNatClampNeg) - (σ.1 13 (v4).toNatClampNeg) / (12 : Int32) * (12 : Int32)) _ hq) (cwV 2 hts gX8_among_X8_isFound rfl rfl rfl (by decide +kernel) ⟨Nat.le_of_ble_eq_true rfl, Nat.le_of_ble_eq_true rfl⟩) ⟨stW_blind nwM_ok, va_recv hK hP (ci := 8) (q0 := 0) rfl wMg0, stW_pass hA hS hN hK hP hD nwM_ok⟩ rfl rfl hl.1 rfl (lv_room (Nat.le_of_ble_eq_true rfl)) dX8_among_50 ⟨Nat.le_of_ble_eq_true rfl, Nat.le_of_ble_eq_true rfl⟩) hS (fun r1 σ1 H locs hq hP hD hS => ?_)
      refine lv_if_eq (tgt := 60) hx hb dX8_among_53 (by decide) (fun hc => ?_) (fun hc => ?_)
      · have hq := hq.1 hc
        refine lv_iconst (v := (0 : Int32)) hx hb dX8_among_60 (by decide) ?_
        refine lv_iadd hx hb dX8_among_61 ?_
        refine lv_istore_n (lv' := [(3, .int (v3 + (0 : Int32))), (0, .ref (ad 0)), (1, .int p1), (4, .int v4)]) hx hb dX8_among_62 rfl hl (by decide) rfl (fun ls hl => ?_)
        refine lv_iinc (v := (v4 + (1 : Int32))) (lv' := [(4, .int (v4 + (1 : Int32))), (3, .int (v3 + (0 : Int32))), (0, .ref (ad 0)), (1, .int p1)]) hx hb dX8_among_63 hl (k := 3) rfl (by rfl) (by decide) rfl (fun ls hl => ?_)
        refine lv_goto (tgt := 22) hx hb dX8_among_66 (by decide) ?_
        rw [hK22] at hq
        exact hq _ _ _ hP hD hS (lv_sub hl [2, 3, 1, 0] rfl)
      · have hq := hq.2 hc
        refine lv_iconst (v := (1 : Int32)) hx hb dX8_among_56 (by decide) ?_
        refine lv_goto (tgt := 61) hx hb dX8_among_57 (by decide) ?_
        refine lv_iadd hx hb dX8_among_61 ?_
        refine lv_istore_n (lv' := [(3, .int (v3 + (1 : Int32))), (0, .ref (ad 0)), (1, .int p1), (4, .int v4)]) hx hb dX8_among_62 rfl hl (by decide) rfl (fun ls hl => ?_)
        refine lv_iinc (v := (v4 + (1 : Int32))) (lv' := [(4, .int (v4 + (1 : Int32))), (3, .int (v3 + (1 : Int32))), (0, .ref (ad 0)), (1, .int p1)]) hx hb dX8_among_63 hl (k := 3) rfl (by rfl) (by decide) rfl (fun ls hl => ?_)
        refine lv_goto (tgt := 22) hx hb dX8_among_66 (by decide) ?_
        rw [hK22] at hq
        exact hq _ _ _ hP hD hS (lv_sub hl [2, 3, 1, 0] rfl)
  have hq := hwp K22 hk22
  refine lv_aload_n hx hb dX8_among_0 rfl (lv_at hl 0 rfl) ?_
  refine w_calli (va_runV (As := []) (rest := []) ⟨hx, hb, hml, hown, hts⟩ (mtX8_rank l D ad cA A σ  _ hq) (cwV 0 hts gX8_among_X8_rank rfl rfl rfl (by decide +kernel) ⟨Nat.le_of_ble_eq_true rfl, Nat.le_of_ble_eq_true rfl⟩) ⟨stW_blind nwM_ok, va_recv hK hP (ci := 8) (q0 := 0) rfl wMg0, stW_pass hA hS hN hK hP hD nwM_ok⟩ rfl rfl hl.1 rfl (lv_room (Nat.le_of_ble_eq_true rfl)) dX8_among_1 ⟨Nat.le_of_ble_eq_true rfl, Nat.le_of_ble_eq_true rfl⟩) hS (fun r1 σ1 H locs hq hP hD hS => ?_)
  refine lv_istore_n (lv' := [(2, .int r1), (0, .ref (ad 0)), (1, .int p1)]) hx hb dX8_among_4 rfl hl (by decide) rfl (fun ls hl => ?_)
  refine lv_iload_n hx hb dX8_among_5 rfl (lv_at hl 2 rfl) ?_
  refine lv_if_lt (tgt := 14) hx hb dX8_among_6 (by decide) (fun hc => ?_) (fun hc => ?_)
  · have hq := hq.1 hc
    refine lv_bipush (v := (-2 : Int32)) hx hb dX8_among_14 (by decide) ?_
    exact W.iret (v := (-2 : Int32)) hx hb hr (fun t ht hW => ⟨⟨(-2 : Int32), σ1, rfl, hq, by rw [ht]; exact hP, hD⟩, hS.F ht⟩) hS.2.2 dX8_among_16
  · have hq := hq.2 hc
    refine lv_iload_n hx hb dX8_among_9 rfl (lv_at hl 2 rfl) ?_
    refine lv_iload_n hx hb dX8_among_10 rfl (lv_at hl 0 rfl) ?_
    refine lv_icmp_le (tgt := 17) hx hb dX8_among_11 (by decide) (fun hc => ?_) (fun hc => ?_)
    · have hq := hq.1 hc
      refine lv_iconst (v := (0 : Int32)) hx hb dX8_among_17 (by decide) ?_
      refine lv_istore_n (lv' := [(3, .int (0 : Int32)), (2, .int r1), (0, .ref (ad 0)), (1, .int p1)]) hx hb dX8_among_18 rfl hl (by decide) rfl (fun ls hl => ?_)
      refine lv_iconst (v := (0 : Int32)) hx hb dX8_among_19 (by decide) ?_
      refine lv_istore (lv' := [(4, .int (0 : Int32)), (3, .int (0 : Int32)), (2, .int r1), (0, .ref (ad 0)), (1, .int p1)]) hx hb dX8_among_20 hl (by decide) rfl (fun ls hl => ?_)
      rw [hK22] at hq
      exact hq _ _ _ hP hD hS (lv_sub hl [3, 4, 1, 0] rfl)
    · have hq := hq.2 hc
      refine lv_bipush (v := (-2 : Int32)) hx hb dX8_among_14 (by decide) ?_
      exact W.iret (v := (-2 : Int32)) hx hb hr (fun t ht hW => ⟨⟨(-2 : Int32), σ1, rfl, hq, by rw [ht]; exact hP, hD⟩, hS.F ht⟩) hS.2.2 dX8_among_16
/-! ArcGuesserModel.isTold(II)Z -/
def X8_isTold_wp (σ : Sto) (p1 : Int32) (p2 : Int32) (Post : Int32 → Sto → Prop) : Prop :=
  (X8_isNode_wp σ p1 (fun r1 σ1 => ((r1 = 0 → (Post (0 : Int32) σ1)) ∧ (¬ r1 = 0 → (X8_isNode_wp σ1 p2 (fun r2 σ2 => ((r2 = 0 → (Post (0 : Int32) σ2)) ∧ (¬ r2 = 0 → (X8_isPair_wp σ2 p1 p2 (fun r3 σ3 => ((¬ r3 = 0 → (Post (1 : Int32) σ3)) ∧ (r3 = 0 → (((σ3.1 0 1) = (1 : Int32) → (Post (0 : Int32) σ3)) ∧ (¬ (σ3.1 0 1) = (1 : Int32) → (X8_isPair_wp σ3 p2 p1 (fun r4 σ4 => ((r4 = 0 → (Post (0 : Int32) σ4)) ∧ (¬ r4 = 0 → (Post (1 : Int32) σ4)))))))))))))))))))
set_option maxHeartbeats 4000000 in
set_option maxRecDepth 100000 in
theorem mtX8_isTold (l : Launch) (D : va_G) (ad : Nat → Nat) (cA : Nat → ClassId) (A : Nat → Prop) (σ : Sto) (p1 : Int32) (p2 : Int32) (Post : Int32 → Sto → Prop) (hwp : X8_isTold_wp σ p1 p2 Post) : Met l yX8_isTold wsX8_isTold ({ frames := 1, cells := 0, slots := 0, locals := 22 }) (va_Pc [.ref (ad 0), .int p1, .int p2] (stW D (tyM cA) nwM (wM ad cA) A σ)) (va_Qi Post (enW D (wM ad cA) A) A) 0 0 A := by
  refine Met.ofW (cc := cX8_isTold) (maxL := 3) (ret := (some .boolean)) (by decide) rfl ?_
  intro p e s m args below meth c s₁ B hml hv
  obtain ⟨rfl, hA, hN, hP, hK, hD⟩ := hv
  have hx := B.exec
  have hb := B.bytes
  have hr := B.returns
  have hts := atoms_spec (ws := wsX8_isTold) B.pre
  have hown : s.vm.findClass RX8 = some m.cls := findClass_of_methodNamed B.named
  have hlocks := B.notSynchronized
  have hiX8 : ∀ w ∈ wsX80, w ∈ wsX8_isTold := by decide +kernel
  have hS : va_S A s.heap s.heap [] := va_S.rf
  have hl := lv_entry ([.ref (ad 0), .int p1, .int p2]) (n := 3) (Nat.le_of_ble_eq_true rfl)
  rw [lg_entry_eq]
  generalize (lg_sl ([.ref (ad 0), .int p1, .int p2]) ++ List.replicate (3 - (lg_sl ([.ref (ad 0), .int p1, .int p2])).length) Slot.unset).toArray = ls at hl ⊢
  have hl : lv_has ls 3 [(0, .ref (ad 0)), (1, .int p1), (2, .int p2)] := hl
  have hq := hwp
  unfold X8_isTold_wp at hq
  refine lv_aload_n hx hb dX8_isTold_0 rfl (lv_at hl 0 rfl) ?_
  refine lv_iload_n hx hb dX8_isTold_1 rfl (lv_at hl 1 rfl) ?_
  refine w_calli (va_runV (As := [.int p1]) (rest := []) ⟨hx, hb, hml, hown, hts⟩ (mtX8_isNode l D ad cA A σ p1 _ hq) (cwV 1 hts gX8_isTold_X8_isNode rfl rfl rfl (by decide +kernel) ⟨Nat.le_of_ble_eq_true rfl, Nat.le_of_ble_eq_true rfl⟩) ⟨stW_blind nwM_ok, va_recv hK hP (ci := 8) (q0 := 0) rfl wMg0, stW_pass hA hS hN hK hP hD nwM_ok⟩ rfl rfl hl.1 rfl (lv_room (Nat.le_of_ble_eq_true rfl)) dX8_isTold_2 ⟨Nat.le_of_ble_eq_true rfl, Nat.le_of_ble_eq_true rfl⟩) hS (fun r1 σ1 H locs hq hP hD hS => ?_)
  refine lv_if_eq (tgt := 46) hx hb dX8_isTold_5 (by decide) (fun hc => ?_) (fun hc => ?_)
  · have hq := hq.1 hc
    refine lv_iconst (v := (0 : Int32)) hx hb dX8_isTold_46 (by decide) ?_
    exact W.zret (v := (0 : Int32)) hx hb hr rfl (fun t ht hW => ⟨⟨(0 : Int32), σ1, rfl, hq, by rw [ht]; exact hP, hD⟩, hS.F ht⟩) hS.2.2 dX8_isTold_47
  · have hq := hq.2 hc
    refine lv_aload_n hx hb dX8_isTold_8 rfl (lv_at hl 0 rfl) ?_
    refine lv_iload_n hx hb dX8_isTold_9 rfl (lv_at hl 2 rfl) ?_
    refine w_calli (va_runV (As := [.int p2]) (rest := []) ⟨hx, hb, hml, hown, hts⟩ (mtX8_isNode l D ad cA A σ1 p2 _ hq) (cwV 1 hts gX8_isTold_X8_isNode rfl rfl rfl (by decide +kernel) ⟨Nat.le_of_ble_eq_true rfl, Nat.le_of_ble_eq_true rfl⟩) ⟨stW_blind nwM_ok, va_recv hK hP (ci := 8) (q0 := 0) rfl wMg0, stW_pass hA hS hN hK hP hD nwM_ok⟩ rfl rfl hl.1 rfl (lv_room (Nat.le_of_ble_eq_true rfl)) dX8_isTold_10 ⟨Nat.le_of_ble_eq_true rfl, Nat.le_of_ble_eq_true rfl⟩) hS (fun r2 σ2 H locs hq hP hD hS => ?_)
    refine lv_if_eq (tgt := 46) hx hb dX8_isTold_13 (by decide) (fun hc => ?_) (fun hc => ?_)
    · have hq := hq.1 hc
      refine lv_iconst (v := (0 : Int32)) hx hb dX8_isTold_46 (by decide) ?_
      exact W.zret (v := (0 : Int32)) hx hb hr rfl (fun t ht hW => ⟨⟨(0 : Int32), σ2, rfl, hq, by rw [ht]; exact hP, hD⟩, hS.F ht⟩) hS.2.2 dX8_isTold_47
    · have hq := hq.2 hc
      refine lv_aload_n hx hb dX8_isTold_16 rfl (lv_at hl 0 rfl) ?_
      refine lv_iload_n hx hb dX8_isTold_17 rfl (lv_at hl 1 rfl) ?_
      refine lv_iload_n hx hb dX8_isTold_18 rfl (lv_at hl 2 rfl) ?_
      refine w_calli (va_runV (As := [.int p1, .int p2]) (rest := []) ⟨hx, hb, hml, hown, hts⟩ (mtX8_isPair l D ad cA A σ2 p1 p2 _ hq) (cwV 2 hts gX8_isTold_X8_isPair rfl rfl rfl (by decide +kernel) ⟨Nat.le_of_ble_eq_true rfl, Nat.le_of_ble_eq_true rfl⟩) ⟨stW_blind nwM_ok, va_recv hK hP (ci := 8) (q0 := 0) rfl wMg0, stW_pass hA hS hN hK hP hD nwM_ok⟩ rfl rfl hl.1 rfl (lv_room (Nat.le_of_ble_eq_true rfl)) dX8_isTold_19 ⟨Nat.le_of_ble_eq_true rfl, Nat.le_of_ble_eq_true rfl⟩) hS (fun r3 σ3 H locs hq hP hD hS => ?_)
      refine lv_if_ne (tgt := 42) hx hb dX8_isTold_22 (by decide) (fun hc => ?_) (fun hc => ?_)
      · have hq := hq.1 hc
        refine lv_iconst (v := (1 : Int32)) hx hb dX8_isTold_42 (by decide) ?_
        refine lv_goto (tgt := 47) hx hb dX8_isTold_43 (by decide) ?_
        exact W.zret (v := (1 : Int32)) hx hb hr rfl (fun t ht hW => ⟨⟨(1 : Int32), σ3, rfl, hq, by rw [ht]; exact hP, hD⟩, hS.F ht⟩) hS.2.2 dX8_isTold_47
      · have hq := hq.2 hc
        refine lv_aload_n hx hb dX8_isTold_25 rfl (lv_at hl 0 rfl) ?_
        refine va_get (D := D) (ci := 8) (v := .int (σ3.1 0 1)) (C := RX8) (T := TX8) (N := 32) hx hb hts hiX8 hown hK hP 0 wMg0 rfl 1 (by decide) (hts (.fieldLink RX8 98 "ArcGuesserModel" "sort" "I") (List.mem_of_getElem? (i := 1) rfl)) (fun _ h9 => h9) rfl dX8_isTold_26 ?_
        refine lv_iconst (v := (1 : Int32)) hx hb dX8_isTold_29 (by decide) ?_
        refine lv_icmp_eq (tgt := 46) hx hb dX8_isTold_30 (by decide) (fun hc => ?_) (fun hc => ?_)
        · have hq := hq.1 hc
          refine lv_iconst (v := (0 : Int32)) hx hb dX8_isTold_46 (by decide) ?_
          exact W.zret (v := (0 : Int32)) hx hb hr rfl (fun t ht hW => ⟨⟨(0 : Int32), σ3, rfl, hq, by rw [ht]; exact hP, hD⟩, hS.F ht⟩) hS.2.2 dX8_isTold_47
        · have hq := hq.2 hc
          refine lv_aload_n hx hb dX8_isTold_33 rfl (lv_at hl 0 rfl) ?_
          refine lv_iload_n hx hb dX8_isTold_34 rfl (lv_at hl 2 rfl) ?_
          refine lv_iload_n hx hb dX8_isTold_35 rfl (lv_at hl 1 rfl) ?_
          refine w_calli (va_runV (As := [.int p2, .int p1]) (rest := []) ⟨hx, hb, hml, hown, hts⟩ (mtX8_isPair l D ad cA A σ3 p2 p1 _ hq) (cwV 2 hts gX8_isTold_X8_isPair rfl rfl rfl (by decide +kernel) ⟨Nat.le_of_ble_eq_true rfl, Nat.le_of_ble_eq_true rfl⟩) ⟨stW_blind nwM_ok, va_recv hK hP (ci := 8) (q0 := 0) rfl wMg0, stW_pass hA hS hN hK hP hD nwM_ok⟩ rfl rfl hl.1 rfl (lv_room (Nat.le_of_ble_eq_true rfl)) dX8_isTold_36 ⟨Nat.le_of_ble_eq_true rfl, Nat.le_of_ble_eq_true rfl⟩) hS (fun r4 σ4 H locs hq hP hD hS => ?_)
          refine lv_if_eq (tgt := 46) hx hb dX8_isTold_39 (by decide) (fun hc => ?_) (fun hc => ?_)
          · have hq := hq.1 hc
            refine lv_iconst (v := (0 : Int32)) hx hb dX8_isTold_46 (by decide) ?_
            exact W.zret (v := (0 : Int32)) hx hb hr rfl (fun t ht hW => ⟨⟨(0 : Int32), σ4, rfl, hq, by rw [ht]; exact hP, hD⟩, hS.F ht⟩) hS.2.2 dX8_isTold_47
          · have hq := hq.2 hc
            refine lv_iconst (v := (1 : Int32)) hx hb dX8_isTold_42 (by decide) ?_
            refine lv_goto (tgt := 47) hx hb dX8_isTold_43 (by decide) ?_
            exact W.zret (v := (1 : Int32)) hx hb hr rfl (fun t ht hW => ⟨⟨(1 : Int32), σ4, rfl, hq, by rw [ht]; exact hP, hD⟩, hS.F ht⟩) hS.2.2 dX8_isTold_47
/-! ArcGuesserModel.changed()V -/
def X8_changed_b2  (K2 : Sto → Int32 → Prop) (Post : Sto → Prop) (σ : Sto) (v1 : Int32) : Prop :=
  (((11 : Int32) ≤ v1 → (Post σ)) ∧ (¬ (11 : Int32) ≤ v1 → (vp_in v1 11 ∧ (K2 (sI σ 10 (v1).toNatClampNeg (vp_nar .boolean (0 : Int32))) (v1 + (1 : Int32))))))
def X8_changed_wp (σ : Sto)  (Post : Sto → Prop) : Prop := ∀ (K2 : Sto → Int32 → Prop), (∀ (σ : Sto) (v1 : Int32), X8_changed_b2  K2 Post σ v1 → K2 σ v1) → 
  (K2 σ (0 : Int32))
set_option maxHeartbeats 4000000 in
set_option maxRecDepth 100000 in
theorem mtX8_changed (l : Launch) (D : va_G) (ad : Nat → Nat) (cA : Nat → ClassId) (A : Nat → Prop) (σ : Sto)  (Post : Sto → Prop) (hwp : X8_changed_wp σ  Post) : Met l yX8_changed wsX8_changed ({ frames := 0, cells := 0, slots := 0, locals := 0 }) (va_Pc [.ref (ad 0)] (stW D (tyM cA) nwM (wM ad cA) A σ)) (va_Qv Post (enW D (wM ad cA) A) A) 0 0 A := by
  refine Met.ofW (cc := cX8_changed) (maxL := 2) (ret := none) (by decide) rfl ?_
  intro p e s m args below meth c s₁ B hml hv
  obtain ⟨rfl, hA, hN, hP, hK, hD⟩ := hv
  have hx := B.exec
  have hb := B.bytes
  have hr := B.returns
  have hts := atoms_spec (ws := wsX8_changed) B.pre
  have hown : s.vm.findClass RX8 = some m.cls := findClass_of_methodNamed B.named
  have hlocks := B.notSynchronized
  have hiX8 : ∀ w ∈ wsX80, w ∈ wsX8_changed := by decide +kernel
  have hS : va_S A s.heap s.heap [] := va_S.rf
  have hl := lv_entry ([.ref (ad 0)]) (n := 2) (Nat.le_of_ble_eq_true rfl)
  rw [lg_entry_eq]
  generalize (lg_sl ([.ref (ad 0)]) ++ List.replicate (2 - (lg_sl ([.ref (ad 0)])).length) Slot.unset).toArray = ls at hl ⊢
  have hl : lv_has ls 2 [(0, .ref (ad 0))] := hl
  obtain ⟨K2, hK2⟩ : ∃ K : Sto → Int32 → Prop, K = fun (σ : Sto) (v1 : Int32) => ∀ (H : Heap) (locs : List Loc) (ls : Array Slot), va_P D vwCl ((wM ad cA) σ) H → va_D A ((wM ad cA) σ) → va_S A s.heap H locs → lv_has ls 2 [(0, .ref (ad 0)), (1, .int v1)] → W p l e (headSpec wsX8_changed ({ frames := 0, cells := 0, slots := 0, locals := 0 })).room s m ([.ref (ad 0)] : List Value).toArray below meth c H locs 0 0 (MQ below (va_Qv Post (enW D (wM ad cA) A) A) ([.ref (ad 0)] : List Value).toArray s 0 0 A) (F0 m 2 ls []) := ⟨_, rfl⟩
  have hk2 : ∀ (σ : Sto) (v1 : Int32), X8_changed_b2  K2 Post σ v1 → K2 σ v1 := by
    intro σ v1 hq
    rw [hK2]
    intro H locs ls hP hD hS hl
    unfold X8_changed_b2 at hq
    refine lv_iload_n hx hb dX8_changed_2 rfl (lv_at hl 1 rfl) ?_
    refine lv_bipush (v := (11 : Int32)) hx hb dX8_changed_3 (by decide) ?_
    refine lv_icmp_ge (tgt := 21) hx hb dX8_changed_5 (by decide) (fun hc => ?_) (fun hc => ?_)
    · have hq := hq.1 hc
      exact W.vret hx hb hr (fun t ht hW => ⟨⟨σ, rfl, hq, by rw [ht]; exact hP, hD⟩, hS.F ht⟩) hS.2.2 dX8_changed_21
    · have hq := hq.2 hc
      refine lv_aload_n hx hb dX8_changed_8 rfl (lv_at hl 0 rfl) ?_
      refine va_get (D := D) (ci := 8) (v := .ref (ad 10)) (C := RX8) (T := TX8) (N := 32) hx hb hts hiX8 hown hK hP 0 wMg0 rfl 15 (by decide) (hts (.fieldLink RX8 52 "ArcGuesserModel" "isKnown" "[Z") (List.mem_of_getElem? (i := 1) rfl)) (fun _ h9 => h9) rfl dX8_changed_9 ?_
      refine lv_iload_n hx hb dX8_changed_12 rfl (lv_at hl 1 rfl) ?_
      refine lv_iconst (v := (0 : Int32)) hx hb dX8_changed_13 (by decide) ?_
      refine va_zast hx hb hK hP hD hS 10 2 wMg10 rfl hq.1 dX8_changed_14 (fun H locs hP hD hS => ?_)
      have hP := wMsP10 hP
      have hD := wMsD10 hD
      have hq := hq.2
      refine lv_iinc (v := (v1 + (1 : Int32))) (lv' := [(1, .int (v1 + (1 : Int32))), (0, .ref (ad 0))]) hx hb dX8_changed_15 hl (k := 1) rfl (by rfl) (by decide) rfl (fun ls hl => ?_)
      refine lv_goto (tgt := 2) hx hb dX8_changed_18 (by decide) ?_
      rw [hK2] at hq
      exact hq _ _ _ hP hD hS (lv_sub hl [1, 0] rfl)
  have hq := hwp K2 hk2
  refine lv_iconst (v := (0 : Int32)) hx hb dX8_changed_0 (by decide) ?_
  refine lv_istore_n (lv' := [(1, .int (0 : Int32)), (0, .ref (ad 0))]) hx hb dX8_changed_1 rfl hl (by decide) rfl (fun ls hl => ?_)
  rw [hK2] at hq
  exact hq _ _ _ hP hD hS (lv_sub hl [1, 0] rfl)
/-! ArcGuesserModel.arc(III)I -/
def X8_arc_wp (σ : Sto) (p1 : Int32) (p2 : Int32) (p3 : Int32) (Post : Int32 → Sto → Prop) : Prop :=
  (X8_isTold_wp σ p1 p2 (fun r1 σ1 => ((¬ r1 = 0 → ((p3 < 0 → (Post (-2 : Int32) σ1)) ∧ (¬ p3 < 0 → ((p3 ≤ (9999 : Int32) → (vp_in (((12 : Int32) * p1) + p2) 144 ∧ (((σ1.1 1 ((((12 : Int32) * p1) + p2)).toNatClampNeg) ≤ 0 → (X8_changed_wp σ1  (fun σ2 => (vp_in (σ2.1 0 7) 132 ∧ (vp_in (σ2.1 0 7) 132 ∧ (vp_in (σ2.1 0 7) 132 ∧ (vp_in (σ2.1 0 7) 132 ∧ (vp_in (((12 : Int32) * p1) + p2) 144 ∧ (((σ2.1 0 1) = (1 : Int32) → (Post ((σ2.1 0 7) + (1 : Int32)) (sI (sI (sI (sI (sI (sI σ2 2 ((σ2.1 0 7)).toNatClampNeg p1) 3 ((σ2.1 0 7)).toNatClampNeg p2) 4 ((σ2.1 0 7)).toNatClampNeg p3) 5 ((σ2.1 0 7)).toNatClampNeg (vp_nar .boolean (0 : Int32))) 0 7 ((σ2.1 0 7) + (1 : Int32))) 1 ((((12 : Int32) * p1) + p2)).toNatClampNeg ((σ2.1 0 7) + (1 : Int32))))) ∧ (¬ (σ2.1 0 1) = (1 : Int32) → (vp_in (((12 : Int32) * p2) + p1) 144 ∧ (Post ((σ2.1 0 7) + (1 : Int32)) (sI (sI (sI (sI (sI (sI (sI σ2 2 ((σ2.1 0 7)).toNatClampNeg p1) 3 ((σ2.1 0 7)).toNatClampNeg p2) 4 ((σ2.1 0 7)).toNatClampNeg p3) 5 ((σ2.1 0 7)).toNatClampNeg (vp_nar .boolean (0 : Int32))) 0 7 ((σ2.1 0 7) + (1 : Int32))) 1 ((((12 : Int32) * p1) + p2)).toNatClampNeg ((σ2.1 0 7) + (1 : Int32))) 1 ((((12 : Int32) * p2) + p1)).toNatClampNeg ((σ2.1 0 7) + (1 : Int32))))))))))))))) ∧ (¬ (σ1.1 1 ((((12 : Int32) * p1) + p2)).toNatClampNeg) ≤ 0 → (Post (-3 : Int32) σ1))))) ∧ (¬ p3 ≤ (9999 : Int32) → (Post (-2 : Int32) σ1)))))) ∧ (r1 = 0 → (Post (-1 : Int32) σ1)))))
set_option maxHeartbeats 4000000 in
set_option maxRecDepth 100000 in
theorem mtX8_arc (l : Launch) (D : va_G) (ad : Nat → Nat) (cA : Nat → ClassId) (A : Nat → Prop) (σ : Sto) (p1 : Int32) (p2 : Int32) (p3 : Int32) (Post : Int32 → Sto → Prop) (hwp : X8_arc_wp σ p1 p2 p3 Post) : Met l yX8_arc wsX8_arc ({ frames := 2, cells := 0, slots := 0, locals := 44 }) (va_Pc [.ref (ad 0), .int p1, .int p2, .int p3] (stW D (tyM cA) nwM (wM ad cA) A σ)) (va_Qi Post (enW D (wM ad cA) A) A) 0 0 A := by
  refine Met.ofW (cc := cX8_arc) (maxL := 4) (ret := (some .int)) (by decide) rfl ?_
  intro p e s m args below meth c s₁ B hml hv
  obtain ⟨rfl, hA, hN, hP, hK, hD⟩ := hv
  have hx := B.exec
  have hb := B.bytes
  have hr := B.returns
  have hts := atoms_spec (ws := wsX8_arc) B.pre
  have hown : s.vm.findClass RX8 = some m.cls := findClass_of_methodNamed B.named
  have hlocks := B.notSynchronized
  have hiX8 : ∀ w ∈ wsX80, w ∈ wsX8_arc := by decide +kernel
  have hS : va_S A s.heap s.heap [] := va_S.rf
  have hl := lv_entry ([.ref (ad 0), .int p1, .int p2, .int p3]) (n := 4) (Nat.le_of_ble_eq_true rfl)
  rw [lg_entry_eq]
  generalize (lg_sl ([.ref (ad 0), .int p1, .int p2, .int p3]) ++ List.replicate (4 - (lg_sl ([.ref (ad 0), .int p1, .int p2, .int p3])).length) Slot.unset).toArray = ls at hl ⊢
  have hl : lv_has ls 4 [(0, .ref (ad 0)), (1, .int p1), (2, .int p2), (3, .int p3)] := hl
  have hq := hwp
  unfold X8_arc_wp at hq
  refine lv_aload_n hx hb dX8_arc_0 rfl (lv_at hl 0 rfl) ?_
  refine lv_iload_n hx hb dX8_arc_1 rfl (lv_at hl 1 rfl) ?_
  refine lv_iload_n hx hb dX8_arc_2 rfl (lv_at hl 2 rfl) ?_
  refine w_calli (va_runV (As := [.int p1, .int p2]) (rest := []) ⟨hx, hb, hml, hown, hts⟩ (mtX8_isTold l D ad cA A σ p1 p2 _ hq) (cwV 2 hts gX8_arc_X8_isTold rfl rfl rfl (by decide +kernel) ⟨Nat.le_of_ble_eq_true rfl, Nat.le_of_ble_eq_true rfl⟩) ⟨stW_blind nwM_ok, va_recv hK hP (ci := 8) (q0 := 0) rfl wMg0, stW_pass hA hS hN hK hP hD nwM_ok⟩ rfl rfl hl.1 rfl (lv_room (Nat.le_of_ble_eq_true rfl)) dX8_arc_3 ⟨Nat.le_of_ble_eq_true rfl, Nat.le_of_ble_eq_true rfl⟩) hS (fun r1 σ1 H locs hq hP hD hS => ?_)
  refine lv_if_ne (tgt := 11) hx hb dX8_arc_6 (by decide) (fun hc => ?_) (fun hc => ?_)
  · have hq := hq.1 hc
    refine lv_iload_n hx hb dX8_arc_11 rfl (lv_at hl 3 rfl) ?_
    refine lv_if_lt (tgt := 22) hx hb dX8_arc_12 (by decide) (fun hc => ?_) (fun hc => ?_)
    · have hq := hq.1 hc
      refine lv_bipush (v := (-2 : Int32)) hx hb dX8_arc_22 (by decide) ?_
      exact W.iret (v := (-2 : Int32)) hx hb hr (fun t ht hW => ⟨⟨(-2 : Int32), σ1, rfl, hq, by rw [ht]; exact hP, hD⟩, hS.F ht⟩) hS.2.2 dX8_arc_24
    · have hq := hq.2 hc
      refine lv_iload_n hx hb dX8_arc_15 rfl (lv_at hl 3 rfl) ?_
      refine lv_sipush (v := (9999 : Int32)) hx hb dX8_arc_16 (by decide) ?_
      refine lv_icmp_le (tgt := 25) hx hb dX8_arc_19 (by decide) (fun hc => ?_) (fun hc => ?_)
      · have hq := hq.1 hc
        refine lv_aload_n hx hb dX8_arc_25 rfl (lv_at hl 0 rfl) ?_
        refine va_get (D := D) (ci := 8) (v := .ref (ad 1)) (C := RX8) (T := TX8) (N := 32) hx hb hts hiX8 hown hK hP 0 wMg0 rfl 2 (by decide) (hts (.fieldLink RX8 13 "ArcGuesserModel" "arcAt" "[I") (List.mem_of_getElem? (i := 1) rfl)) (fun _ h9 => h9) rfl dX8_arc_26 ?_
        refine lv_bipush (v := (12 : Int32)) hx hb dX8_arc_29 (by decide) ?_
        refine lv_iload_n hx hb dX8_arc_31 rfl (lv_at hl 1 rfl) ?_
        refine lv_imul hx hb dX8_arc_32 ?_
        refine lv_iload_n hx hb dX8_arc_33 rfl (lv_at hl 2 rfl) ?_
        refine lv_iadd hx hb dX8_arc_34 ?_
        refine va_iald hx hb hK hP 1 0 wMg1 rfl hq.1 dX8_arc_35 ?_
        have hq := hq.2
        refine lv_if_le (tgt := 42) hx hb dX8_arc_36 (by decide) (fun hc => ?_) (fun hc => ?_)
        · have hq := hq.1 hc
          refine lv_aload_n hx hb dX8_arc_42 rfl (lv_at hl 0 rfl) ?_
          refine w_callv (va_runV (As := []) (rest := []) ⟨hx, hb, hml, hown, hts⟩ (mtX8_changed l D ad cA A σ1  _ hq) (cwV 0 hts gX8_arc_X8_changed rfl rfl rfl (by decide +kernel) ⟨Nat.le_of_ble_eq_true rfl, Nat.le_of_ble_eq_true rfl⟩) ⟨stW_blind nwM_ok, va_recv hK hP (ci := 8) (q0 := 0) rfl wMg0, stW_pass hA hS hN hK hP hD nwM_ok⟩ rfl rfl hl.1 rfl (lv_room (Nat.le_of_ble_eq_true rfl)) dX8_arc_43 ⟨Nat.le_of_ble_eq_true rfl, Nat.le_of_ble_eq_true rfl⟩) hS (fun σ2 H locs hq hP hD hS => ?_)
          refine lv_aload_n hx hb dX8_arc_46 rfl (lv_at hl 0 rfl) ?_
          refine va_get (D := D) (ci := 8) (v := .ref (ad 2)) (C := RX8) (T := TX8) (N := 32) hx hb hts hiX8 hown hK hP 0 wMg0 rfl 3 (by decide) (hts (.fieldLink RX8 17 "ArcGuesserModel" "arcA" "[I") (List.mem_of_getElem? (i := 2) rfl)) (fun _ h9 => h9) rfl dX8_arc_47 ?_
          refine lv_aload_n hx hb dX8_arc_50 rfl (lv_at hl 0 rfl) ?_
          refine va_get (D := D) (ci := 8) (v := .int (σ2.1 0 7)) (C := RX8) (T := TX8) (N := 32) hx hb hts hiX8 hown hK hP 0 wMg0 rfl 7 (by decide) (hts (.fieldLink RX8 92 "ArcGuesserModel" "arcs" "I") (List.mem_of_getElem? (i := 3) rfl)) (fun _ h9 => h9) rfl dX8_arc_51 ?_
          refine lv_iload_n hx hb dX8_arc_54 rfl (lv_at hl 1 rfl) ?_
          refine va_iast hx hb hK hP hD hS 2 0 wMg2 rfl hq.1 dX8_arc_55 (fun H locs hP hD hS => ?_)
          have hP := wMsP2 hP
          have hD := wMsD2 hD
          have hq := hq.2
          refine lv_aload_n hx hb dX8_arc_56 rfl (lv_at hl 0 rfl) ?_
          refine va_get (D := D) (ci := 8) (v := .ref (ad 3)) (C := RX8) (T := TX8) (N := 32) hx hb hts hiX8 hown hK hP 0 wMg0 rfl 4 (by decide) (hts (.fieldLink RX8 20 "ArcGuesserModel" "arcB" "[I") (List.mem_of_getElem? (i := 4) rfl)) (fun _ h9 => h9) rfl dX8_arc_57 ?_
          refine lv_aload_n hx hb dX8_arc_60 rfl (lv_at hl 0 rfl) ?_
          refine va_get (D := D) (ci := 8) (v := .int (σ2.1 0 7)) (C := RX8) (T := TX8) (N := 32) hx hb hts hiX8 hown hK hP 0 wMg0 rfl 7 (by decide) (hts (.fieldLink RX8 92 "ArcGuesserModel" "arcs" "I") (List.mem_of_getElem? (i := 3) rfl)) (fun _ h9 => h9) rfl dX8_arc_61 ?_
          refine lv_iload_n hx hb dX8_arc_64 rfl (lv_at hl 2 rfl) ?_
          refine va_iast hx hb hK hP hD hS 3 0 wMg3 rfl hq.1 dX8_arc_65 (fun H locs hP hD hS => ?_)
          have hP := wMsP3 hP
          have hD := wMsD3 hD
          have hq := hq.2
          refine lv_aload_n hx hb dX8_arc_66 rfl (lv_at hl 0 rfl) ?_
          refine va_get (D := D) (ci := 8) (v := .ref (ad 4)) (C := RX8) (T := TX8) (N := 32) hx hb hts hiX8 hown hK hP 0 wMg0 rfl 5 (by decide) (hts (.fieldLink RX8 23 "ArcGuesserModel" "times" "[I") (List.mem_of_getElem? (i := 5) rfl)) (fun _ h9 => h9) rfl dX8_arc_67 ?_
          refine lv_aload_n hx hb dX8_arc_70 rfl (lv_at hl 0 rfl) ?_
          refine va_get (D := D) (ci := 8) (v := .int (σ2.1 0 7)) (C := RX8) (T := TX8) (N := 32) hx hb hts hiX8 hown hK hP 0 wMg0 rfl 7 (by decide) (hts (.fieldLink RX8 92 "ArcGuesserModel" "arcs" "I") (List.mem_of_getElem? (i := 3) rfl)) (fun _ h9 => h9) rfl dX8_arc_71 ?_
          refine lv_iload_n hx hb dX8_arc_74 rfl (lv_at hl 3 rfl) ?_
          refine va_iast hx hb hK hP hD hS 4 0 wMg4 rfl hq.1 dX8_arc_75 (fun H locs hP hD hS => ?_)
          have hP := wMsP4 hP
          have hD := wMsD4 hD
          have hq := hq.2
          refine lv_aload_n hx hb dX8_arc_76 rfl (lv_at hl 0 rfl) ?_
          refine va_get (D := D) (ci := 8) (v := .ref (ad 5)) (C := RX8) (T := TX8) (N := 32) hx hb hts hiX8 hown hK hP 0 wMg0 rfl 6 (by decide) (hts (.fieldLink RX8 26 "ArcGuesserModel" "hidden" "[Z") (List.mem_of_getElem? (i := 6) rfl)) (fun _ h9 => h9) rfl dX8_arc_77 ?_
          refine lv_aload_n hx hb dX8_arc_80 rfl (lv_at hl 0 rfl) ?_
          refine va_get (D := D) (ci := 8) (v := .int (σ2.1 0 7)) (C := RX8) (T := TX8) (N := 32) hx hb hts hiX8 hown hK hP 0 wMg0 rfl 7 (by decide) (hts (.fieldLink RX8 92 "ArcGuesserModel" "arcs" "I") (List.mem_of_getElem? (i := 3) rfl)) (fun _ h9 => h9) rfl dX8_arc_81 ?_
          refine lv_iconst (v := (0 : Int32)) hx hb dX8_arc_84 (by decide) ?_
          refine va_zast hx hb hK hP hD hS 5 2 wMg5 rfl hq.1 dX8_arc_85 (fun H locs hP hD hS => ?_)
          have hP := wMsP5 hP
          have hD := wMsD5 hD
          have hq := hq.2
          refine lv_aload_n hx hb dX8_arc_86 rfl (lv_at hl 0 rfl) ?_
          refine lv_dup hx hb dX8_arc_87 rfl ?_
          refine va_get (D := D) (ci := 8) (v := .int (σ2.1 0 7)) (C := RX8) (T := TX8) (N := 32) hx hb hts hiX8 hown hK hP 0 wMg0 rfl 7 (by decide) (hts (.fieldLink RX8 92 "ArcGuesserModel" "arcs" "I") (List.mem_of_getElem? (i := 3) rfl)) (fun _ h9 => h9) rfl dX8_arc_88 ?_
          refine lv_iconst (v := (1 : Int32)) hx hb dX8_arc_91 (by decide) ?_
          refine lv_iadd hx hb dX8_arc_92 ?_
          refine va_put (D := D) (ci := 8) (v := .int ((σ2.1 0 7) + (1 : Int32))) (ty := .int) (C := RX8) (T := TX8) (N := 32) hx hb hts hiX8 tyX8 tyX8_ok nmX8 hown hK hP hD hS 0 wMg0 rfl 7 (by decide) (hts (.fieldLink RX8 92 "ArcGuesserModel" "arcs" "I") (List.mem_of_getElem? (i := 3) rfl)) (fun _ h9 => h9) rfl (by decide +kernel) rfl rfl (Nat.le_of_ble_eq_true rfl) dX8_arc_93 (fun H locs hP hD hS => ?_)
          have hP := wMfP0_7 hP
          have hD := wMfD0_7 hD
          refine lv_aload_n hx hb dX8_arc_96 rfl (lv_at hl 0 rfl) ?_
          refine va_get (D := D) (ci := 8) (v := .ref (ad 1)) (C := RX8) (T := TX8) (N := 32) hx hb hts hiX8 hown hK hP 0 wMg0 rfl 2 (by decide) (hts (.fieldLink RX8 13 "ArcGuesserModel" "arcAt" "[I") (List.mem_of_getElem? (i := 1) rfl)) (fun _ h9 => h9) rfl dX8_arc_97 ?_
          refine lv_bipush (v := (12 : Int32)) hx hb dX8_arc_100 (by decide) ?_
          refine lv_iload_n hx hb dX8_arc_102 rfl (lv_at hl 1 rfl) ?_
          refine lv_imul hx hb dX8_arc_103 ?_
          refine lv_iload_n hx hb dX8_arc_104 rfl (lv_at hl 2 rfl) ?_
          refine lv_iadd hx hb dX8_arc_105 ?_
          refine lv_aload_n hx hb dX8_arc_106 rfl (lv_at hl 0 rfl) ?_
          refine va_get (D := D) (ci := 8) (v := .int ((σ2.1 0 7) + (1 : Int32))) (C := RX8) (T := TX8) (N := 32) hx hb hts hiX8 hown hK hP 0 wMg0 rfl 7 (by decide) (hts (.fieldLink RX8 92 "ArcGuesserModel" "arcs" "I") (List.mem_of_getElem? (i := 3) rfl)) (fun _ h9 => h9) rfl dX8_arc_107 ?_
          refine va_iast hx hb hK hP hD hS 1 0 wMg1 rfl hq.1 dX8_arc_110 (fun H locs hP hD hS => ?_)
          have hP := wMsP1 hP
          have hD := wMsD1 hD
          have hq := hq.2
          refine lv_aload_n hx hb dX8_arc_111 rfl (lv_at hl 0 rfl) ?_
          refine va_get (D := D) (ci := 8) (v := .int (σ2.1 0 1)) (C := RX8) (T := TX8) (N := 32) hx hb hts hiX8 hown hK hP 0 wMg0 rfl 1 (by decide) (hts (.fieldLink RX8 98 "ArcGuesserModel" "sort" "I") (List.mem_of_getElem? (i := 7) rfl)) (fun _ h9 => h9) rfl dX8_arc_112 ?_
          refine lv_iconst (v := (1 : Int32)) hx hb dX8_arc_115 (by decide) ?_
          refine lv_icmp_eq (tgt := 134) hx hb dX8_arc_116 (by decide) (fun hc => ?_) (fun hc => ?_)
          · have hq := hq.1 hc
            refine lv_aload_n hx hb dX8_arc_134 rfl (lv_at hl 0 rfl) ?_
            refine va_get (D := D) (ci := 8) (v := .int ((σ2.1 0 7) + (1 : Int32))) (C := RX8) (T := TX8) (N := 32) hx hb hts hiX8 hown hK hP 0 wMg0 rfl 7 (by decide) (hts (.fieldLink RX8 92 "ArcGuesserModel" "arcs" "I") (List.mem_of_getElem? (i := 3) rfl)) (fun _ h9 => h9) rfl dX8_arc_135 ?_
            exact W.iret (v := ((σ2.1 0 7) + (1 : Int32))) hx hb hr (fun t ht hW => ⟨⟨((σ2.1 0 7) + (1 : Int32)), (sI (sI (sI (sI (sI (sI σ2 2 ((σ2.1 0 7)).toNatClampNeg p1) 3 ((σ2.1 0 7)).toNatClampNeg p2) 4 ((σ2.1 0 7)).toNatClampNeg p3) 5 ((σ2.1 0 7)).toNatClampNeg (vp_nar .boolean (0 : Int32))) 0 7 ((σ2.1 0 7) + (1 : Int32))) 1 ((((12 : Int32) * p1) + p2)).toNatClampNeg ((σ2.1 0 7) + (1 : Int32))), rfl, hq, by rw [ht]; exact hP, hD⟩, hS.F ht⟩) hS.2.2 dX8_arc_138
          · have hq := hq.2 hc
            refine lv_aload_n hx hb dX8_arc_119 rfl (lv_at hl 0 rfl) ?_
            refine va_get (D := D) (ci := 8) (v := .ref (ad 1)) (C := RX8) (T := TX8) (N := 32) hx hb hts hiX8 hown hK hP 0 wMg0 rfl 2 (by decide) (hts (.fieldLink RX8 13 "ArcGuesserModel" "arcAt" "[I") (List.mem_of_getElem? (i := 1) rfl)) (fun _ h9 => h9) rfl dX8_arc_120 ?_
            refine lv_bipush (v := (12 : Int32)) hx hb dX8_arc_123 (by decide) ?_
            refine lv_iload_n hx hb dX8_arc_125 rfl (lv_at hl 2 rfl) ?_
            refine lv_imul hx hb dX8_arc_126 ?_
            refine lv_iload_n hx hb dX8_arc_127 rfl (lv_at hl 1 rfl) ?_
            refine lv_iadd hx hb dX8_arc_128 ?_
            refine lv_aload_n hx hb dX8_arc_129 rfl (lv_at hl 0 rfl) ?_
            refine va_get (D := D) (ci := 8) (v := .int ((σ2.1 0 7) + (1 : Int32))) (C := RX8) (T := TX8) (N := 32) hx hb hts hiX8 hown hK hP 0 wMg0 rfl 7 (by decide) (hts (.fieldLink RX8 92 "ArcGuesserModel" "arcs" "I") (List.mem_of_getElem? (i := 3) rfl)) (fun _ h9 => h9) rfl dX8_arc_130 ?_
            refine va_iast hx hb hK hP hD hS 1 0 wMg1 rfl hq.1 dX8_arc_133 (fun H locs hP hD hS => ?_)
            have hP := wMsP1 hP
            have hD := wMsD1 hD
            have hq := hq.2
            refine lv_aload_n hx hb dX8_arc_134 rfl (lv_at hl 0 rfl) ?_
            refine va_get (D := D) (ci := 8) (v := .int ((σ2.1 0 7) + (1 : Int32))) (C := RX8) (T := TX8) (N := 32) hx hb hts hiX8 hown hK hP 0 wMg0 rfl 7 (by decide) (hts (.fieldLink RX8 92 "ArcGuesserModel" "arcs" "I") (List.mem_of_getElem? (i := 3) rfl)) (fun _ h9 => h9) rfl dX8_arc_135 ?_
            exact W.iret (v := ((σ2.1 0 7) + (1 : Int32))) hx hb hr (fun t ht hW => ⟨⟨((σ2.1 0 7) + (1 : Int32)), (sI (sI (sI (sI (sI (sI (sI σ2 2 ((σ2.1 0 7)).toNatClampNeg p1) 3 ((σ2.1 0 7)).toNatClampNeg p2) 4 ((σ2.1 0 7)).toNatClampNeg p3) 5 ((σ2.1 0 7)).toNatClampNeg (vp_nar .boolean (0 : Int32))) 0 7 ((σ2.1 0 7) + (1 : Int32))) 1 ((((12 : Int32) * p1) + p2)).toNatClampNeg ((σ2.1 0 7) + (1 : Int32))) 1 ((((12 : Int32) * p2) + p1)).toNatClampNeg ((σ2.1 0 7) + (1 : Int32))), rfl, hq, by rw [ht]; exact hP, hD⟩, hS.F ht⟩) hS.2.2 dX8_arc_138
        · have hq := hq.2 hc
          refine lv_bipush (v := (-3 : Int32)) hx hb dX8_arc_39 (by decide) ?_
          exact W.iret (v := (-3 : Int32)) hx hb hr (fun t ht hW => ⟨⟨(-3 : Int32), σ1, rfl, hq, by rw [ht]; exact hP, hD⟩, hS.F ht⟩) hS.2.2 dX8_arc_41
      · have hq := hq.2 hc
        refine lv_bipush (v := (-2 : Int32)) hx hb dX8_arc_22 (by decide) ?_
        exact W.iret (v := (-2 : Int32)) hx hb hr (fun t ht hW => ⟨⟨(-2 : Int32), σ1, rfl, hq, by rw [ht]; exact hP, hD⟩, hS.F ht⟩) hS.2.2 dX8_arc_24
  · have hq := hq.2 hc
    refine lv_iconst (v := (-1 : Int32)) hx hb dX8_arc_9 (by decide) ?_
    exact W.iret (v := (-1 : Int32)) hx hb hr (fun t ht hW => ⟨⟨(-1 : Int32), σ1, rfl, hq, by rw [ht]; exact hP, hD⟩, hS.F ht⟩) hS.2.2 dX8_arc_10
/-! ArcGuesserModel.bottom()J -/
def X8_bottom_wp (σ : Sto)  (Post : Int64 → Sto → Prop) : Prop :=
  (Post (σ.2 0 17) σ)
set_option maxHeartbeats 4000000 in
set_option maxRecDepth 100000 in
theorem mtX8_bottom (l : Launch) (D : va_G) (ad : Nat → Nat) (cA : Nat → ClassId) (A : Nat → Prop) (σ : Sto)  (Post : Int64 → Sto → Prop) (hwp : X8_bottom_wp σ  Post) : Met l yX8_bottom wsX8_bottom ({ frames := 0, cells := 0, slots := 0, locals := 0 }) (va_Pc [.ref (ad 0)] (stW D (tyM cA) nwM (wM ad cA) A σ)) (va_Ql Post (enW D (wM ad cA) A) A) 0 0 A := by
  refine Met.ofW (cc := cX8_bottom) (maxL := 1) (ret := (some .long)) (by decide) rfl ?_
  intro p e s m args below meth c s₁ B hml hv
  obtain ⟨rfl, hA, hN, hP, hK, hD⟩ := hv
  have hx := B.exec
  have hb := B.bytes
  have hr := B.returns
  have hts := atoms_spec (ws := wsX8_bottom) B.pre
  have hown : s.vm.findClass RX8 = some m.cls := findClass_of_methodNamed B.named
  have hlocks := B.notSynchronized
  have hiX8 : ∀ w ∈ wsX80, w ∈ wsX8_bottom := by decide +kernel
  have hS : va_S A s.heap s.heap [] := va_S.rf
  have hl := lv_entry ([.ref (ad 0)]) (n := 1) (Nat.le_of_ble_eq_true rfl)
  rw [lg_entry_eq]
  generalize (lg_sl ([.ref (ad 0)]) ++ List.replicate (1 - (lg_sl ([.ref (ad 0)])).length) Slot.unset).toArray = ls at hl ⊢
  have hl : lv_has ls 1 [(0, .ref (ad 0))] := hl
  have hq := hwp
  unfold X8_bottom_wp at hq
  refine lv_aload_n hx hb dX8_bottom_0 rfl (lv_at hl 0 rfl) ?_
  refine va_get (D := D) (ci := 8) (v := .long (σ.2 0 17)) (C := RX8) (T := TX8) (N := 32) hx hb hts hiX8 hown hK hP 0 wMg0 rfl 17 (by decide) (hts (.fieldLink RX8 55 "ArcGuesserModel" "boardBottom" "J") (List.mem_of_getElem? (i := 1) rfl)) (fun _ h9 => h9) rfl dX8_bottom_1 ?_
  exact W.lret (v := (σ.2 0 17)) hx hb hr (fun t ht hW => ⟨⟨(σ.2 0 17), σ, rfl, hq, by rw [ht]; exact hP, hD⟩, hS.F ht⟩) hS.2.2 dX8_bottom_4
/-! ArcGuesserModel.pairs()I -/
def X8_pairs_b4  (K4 : Sto → Int32 → Int32 → Prop) (K14 : Sto → Int32 → Int32 → Int32 → Prop) (Post : Int32 → Sto → Prop) (σ : Sto) (v1 : Int32) (v2 : Int32) : Prop :=
  (((σ.1 0 0) ≤ v2 → (Post v1 σ)) ∧ (¬ (σ.1 0 0) ≤ v2 → (K14 σ v1 v2 (0 : Int32))))
def X8_pairs_b14  (K4 : Sto → Int32 → Int32 → Prop) (K14 : Sto → Int32 → Int32 → Int32 → Prop) (Post : Int32 → Sto → Prop) (σ : Sto) (v1 : Int32) (v2 : Int32) (v3 : Int32) : Prop :=
  (((σ.1 0 0) ≤ v3 → (K4 σ v1 (v2 + (1 : Int32)))) ∧ (¬ (σ.1 0 0) ≤ v3 → (X8_isPair_wp σ v2 v3 (fun r1 σ1 => ((r1 = 0 → (K14 σ1 (v1 + (0 : Int32)) v2 (v3 + (1 : Int32)))) ∧ (¬ r1 = 0 → (K14 σ1 (v1 + (1 : Int32)) v2 (v3 + (1 : Int32)))))))))
def X8_pairs_wp (σ : Sto)  (Post : Int32 → Sto → Prop) : Prop := ∀ (K4 : Sto → Int32 → Int32 → Prop) (K14 : Sto → Int32 → Int32 → Int32 → Prop), (∀ (σ : Sto) (v1 : Int32) (v2 : Int32), X8_pairs_b4  K4 K14 Post σ v1 v2 → K4 σ v1 v2) → (∀ (σ : Sto) (v1 : Int32) (v2 : Int32) (v3 : Int32), X8_pairs_b14  K4 K14 Post σ v1 v2 v3 → K14 σ v1 v2 v3) → 
  (K4 σ (0 : Int32) (0 : Int32))
set_option maxHeartbeats 4000000 in
set_option maxRecDepth 100000 in
theorem mtX8_pairs (l : Launch) (D : va_G) (ad : Nat → Nat) (cA : Nat → ClassId) (A : Nat → Prop) (σ : Sto)  (Post : Int32 → Sto → Prop) (hwp : X8_pairs_wp σ  Post) : Met l yX8_pairs wsX8_pairs ({ frames := 1, cells := 0, slots := 0, locals := 22 }) (va_Pc [.ref (ad 0)] (stW D (tyM cA) nwM (wM ad cA) A σ)) (va_Qi Post (enW D (wM ad cA) A) A) 0 0 A := by
  refine Met.ofW (cc := cX8_pairs) (maxL := 4) (ret := (some .int)) (by decide) rfl ?_
  intro p e s m args below meth c s₁ B hml hv
  obtain ⟨rfl, hA, hN, hP, hK, hD⟩ := hv
  have hx := B.exec
  have hb := B.bytes
  have hr := B.returns
  have hts := atoms_spec (ws := wsX8_pairs) B.pre
  have hown : s.vm.findClass RX8 = some m.cls := findClass_of_methodNamed B.named
  have hlocks := B.notSynchronized
  have hiX8 : ∀ w ∈ wsX80, w ∈ wsX8_pairs := by decide +kernel
  have hS : va_S A s.heap s.heap [] := va_S.rf
  have hl := lv_entry ([.ref (ad 0)]) (n := 4) (Nat.le_of_ble_eq_true rfl)
  rw [lg_entry_eq]
  generalize (lg_sl ([.ref (ad 0)]) ++ List.replicate (4 - (lg_sl ([.ref (ad 0)])).length) Slot.unset).toArray = ls at hl ⊢
  have hl : lv_has ls 4 [(0, .ref (ad 0))] := hl
  obtain ⟨K4, hK4⟩ : ∃ K : Sto → Int32 → Int32 → Prop, K = fun (σ : Sto) (v1 : Int32) (v2 : Int32) => ∀ (H : Heap) (locs : List Loc) (ls : Array Slot), va_P D vwCl ((wM ad cA) σ) H → va_D A ((wM ad cA) σ) → va_S A s.heap H locs → lv_has ls 4 [(0, .ref (ad 0)), (1, .int v1), (2, .int v2)] → W p l e (headSpec wsX8_pairs ({ frames := 1, cells := 0, slots := 0, locals := 22 })).room s m ([.ref (ad 0)] : List Value).toArray below meth c H locs 0 0 (MQ below (va_Qi Post (enW D (wM ad cA) A) A) ([.ref (ad 0)] : List Value).toArray s 0 0 A) (F0 m 4 ls []) := ⟨_, rfl⟩
  obtain ⟨K14, hK14⟩ : ∃ K : Sto → Int32 → Int32 → Int32 → Prop, K = fun (σ : Sto) (v1 : Int32) (v2 : Int32) (v3 : Int32) => ∀ (H : Heap) (locs : List Loc) (ls : Array Slot), va_P D vwCl ((wM ad cA) σ) H → va_D A ((wM ad cA) σ) → va_S A s.heap H locs → lv_has ls 4 [(0, .ref (ad 0)), (1, .int v1), (2, .int v2), (3, .int v3)] → W p l e (headSpec wsX8_pairs ({ frames := 1, cells := 0, slots := 0, locals := 22 })).room s m ([.ref (ad 0)] : List Value).toArray below meth c H locs 0 0 (MQ below (va_Qi Post (enW D (wM ad cA) A) A) ([.ref (ad 0)] : List Value).toArray s 0 0 A) (F0 m 14 ls []) := ⟨_, rfl⟩
  have hk4 : ∀ (σ : Sto) (v1 : Int32) (v2 : Int32), X8_pairs_b4  K4 K14 Post σ v1 v2 → K4 σ v1 v2 := by
    intro σ v1 v2 hq
    rw [hK4]
    intro H locs ls hP hD hS hl
    unfold X8_pairs_b4 at hq
    refine lv_iload_n hx hb dX8_pairs_4 rfl (lv_at hl 2 rfl) ?_
    refine lv_aload_n hx hb dX8_pairs_5 rfl (lv_at hl 0 rfl) ?_
    refine va_get (D := D) (ci := 8) (v := .int (σ.1 0 0)) (C := RX8) (T := TX8) (N := 32) hx hb hts hiX8 hown hK hP 0 wMg0 rfl 0 (by decide) (hts (.fieldLink RX8 7 "ArcGuesserModel" "n" "I") (List.mem_of_getElem? (i := 1) rfl)) (fun _ h9 => h9) rfl dX8_pairs_6 ?_
    refine lv_icmp_ge (tgt := 51) hx hb dX8_pairs_9 (by decide) (fun hc => ?_) (fun hc => ?_)
    · have hq := hq.1 hc
      refine lv_iload_n hx hb dX8_pairs_51 rfl (lv_at hl 1 rfl) ?_
      exact W.iret (v := v1) hx hb hr (fun t ht hW => ⟨⟨v1, σ, rfl, hq, by rw [ht]; exact hP, hD⟩, hS.F ht⟩) hS.2.2 dX8_pairs_52
    · have hq := hq.2 hc
      refine lv_iconst (v := (0 : Int32)) hx hb dX8_pairs_12 (by decide) ?_
      refine lv_istore_n (lv' := [(3, .int (0 : Int32)), (0, .ref (ad 0)), (1, .int v1), (2, .int v2)]) hx hb dX8_pairs_13 rfl hl (by decide) rfl (fun ls hl => ?_)
      rw [hK14] at hq
      exact hq _ _ _ hP hD hS (lv_sub hl [1, 2, 3, 0] rfl)
  have hk14 : ∀ (σ : Sto) (v1 : Int32) (v2 : Int32) (v3 : Int32), X8_pairs_b14  K4 K14 Post σ v1 v2 v3 → K14 σ v1 v2 v3 := by
    intro σ v1 v2 v3 hq
    rw [hK14]
    intro H locs ls hP hD hS hl
    unfold X8_pairs_b14 at hq
    refine lv_iload_n hx hb dX8_pairs_14 rfl (lv_at hl 3 rfl) ?_
    refine lv_aload_n hx hb dX8_pairs_15 rfl (lv_at hl 0 rfl) ?_
    refine va_get (D := D) (ci := 8) (v := .int (σ.1 0 0)) (C := RX8) (T := TX8) (N := 32) hx hb hts hiX8 hown hK hP 0 wMg0 rfl 0 (by decide) (hts (.fieldLink RX8 7 "ArcGuesserModel" "n" "I") (List.mem_of_getElem? (i := 1) rfl)) (fun _ h9 => h9) rfl dX8_pairs_16 ?_
    refine lv_icmp_ge (tgt := 45) hx hb dX8_pairs_19 (by decide) (fun hc => ?_) (fun hc => ?_)
    · have hq := hq.1 hc
      refine lv_iinc (v := (v2 + (1 : Int32))) (lv' := [(2, .int (v2 + (1 : Int32))), (0, .ref (ad 0)), (1, .int v1), (3, .int v3)]) hx hb dX8_pairs_45 hl (k := 2) rfl (by rfl) (by decide) rfl (fun ls hl => ?_)
      refine lv_goto (tgt := 4) hx hb dX8_pairs_48 (by decide) ?_
      rw [hK4] at hq
      exact hq _ _ _ hP hD hS (lv_sub hl [1, 2, 0] rfl)
    · have hq := hq.2 hc
      refine lv_iload_n hx hb dX8_pairs_22 rfl (lv_at hl 1 rfl) ?_
      refine lv_aload_n hx hb dX8_pairs_23 rfl (lv_at hl 0 rfl) ?_
      refine lv_iload_n hx hb dX8_pairs_24 rfl (lv_at hl 2 rfl) ?_
      refine lv_iload_n hx hb dX8_pairs_25 rfl (lv_at hl 3 rfl) ?_
      refine w_calli (va_runV (As := [.int v2, .int v3]) (rest := [.int v1]) ⟨hx, hb, hml, hown, hts⟩ (mtX8_isPair l D ad cA A σ v2 v3 _ hq) (cwV 2 hts gX8_pairs_X8_isPair rfl rfl rfl (by decide +kernel) ⟨Nat.le_of_ble_eq_true rfl, Nat.le_of_ble_eq_true rfl⟩) ⟨stW_blind nwM_ok, va_recv hK hP (ci := 8) (q0 := 0) rfl wMg0, stW_pass hA hS hN hK hP hD nwM_ok⟩ rfl rfl hl.1 rfl (lv_room (Nat.le_of_ble_eq_true rfl)) dX8_pairs_26 ⟨Nat.le_of_ble_eq_true rfl, Nat.le_of_ble_eq_true rfl⟩) hS (fun r1 σ1 H locs hq hP hD hS => ?_)
      refine lv_if_eq (tgt := 36) hx hb dX8_pairs_29 (by decide) (fun hc => ?_) (fun hc => ?_)
      · have hq := hq.1 hc
        refine lv_iconst (v := (0 : Int32)) hx hb dX8_pairs_36 (by decide) ?_
        refine lv_iadd hx hb dX8_pairs_37 ?_
        refine lv_istore_n (lv' := [(1, .int (v1 + (0 : Int32))), (0, .ref (ad 0)), (2, .int v2), (3, .int v3)]) hx hb dX8_pairs_38 rfl hl (by decide) rfl (fun ls hl => ?_)
        refine lv_iinc (v := (v3 + (1 : Int32))) (lv' := [(3, .int (v3 + (1 : Int32))), (1, .int (v1 + (0 : Int32))), (0, .ref (ad 0)), (2, .int v2)]) hx hb dX8_pairs_39 hl (k := 3) rfl (by rfl) (by decide) rfl (fun ls hl => ?_)
        refine lv_goto (tgt := 14) hx hb dX8_pairs_42 (by decide) ?_
        rw [hK14] at hq
        exact hq _ _ _ hP hD hS (lv_sub hl [2, 1, 3, 0] rfl)
      · have hq := hq.2 hc
        refine lv_iconst (v := (1 : Int32)) hx hb dX8_pairs_32 (by decide) ?_
        refine lv_goto (tgt := 37) hx hb dX8_pairs_33 (by decide) ?_
        refine lv_iadd hx hb dX8_pairs_37 ?_
        refine lv_istore_n (lv' := [(1, .int (v1 + (1 : Int32))), (0, .ref (ad 0)), (2, .int v2), (3, .int v3)]) hx hb dX8_pairs_38 rfl hl (by decide) rfl (fun ls hl => ?_)
        refine lv_iinc (v := (v3 + (1 : Int32))) (lv' := [(3, .int (v3 + (1 : Int32))), (1, .int (v1 + (1 : Int32))), (0, .ref (ad 0)), (2, .int v2)]) hx hb dX8_pairs_39 hl (k := 3) rfl (by rfl) (by decide) rfl (fun ls hl => ?_)
        refine lv_goto (tgt := 14) hx hb dX8_pairs_42 (by decide) ?_
        rw [hK14] at hq
        exact hq _ _ _ hP hD hS (lv_sub hl [2, 1, 3, 0] rfl)
  have hq := hwp K4 K14 hk4 hk14
  refine lv_iconst (v := (0 : Int32)) hx hb dX8_pairs_0 (by decide) ?_
  refine lv_istore_n (lv' := [(1, .int (0 : Int32)), (0, .ref (ad 0))]) hx hb dX8_pairs_1 rfl hl (by decide) rfl (fun ls hl => ?_)
  refine lv_iconst (v := (0 : Int32)) hx hb dX8_pairs_2 (by decide) ?_
  refine lv_istore_n (lv' := [(2, .int (0 : Int32)), (1, .int (0 : Int32)), (0, .ref (ad 0))]) hx hb dX8_pairs_3 rfl hl (by decide) rfl (fun ls hl => ?_)
  rw [hK4] at hq
  exact hq _ _ _ hP hD hS (lv_sub hl [2, 1, 0] rfl)
/-! ArcGuesserModel.hiddenOnes()I -/
def X8_hiddenOnes_b4  (K4 : Sto → Int32 → Int32 → Prop) (Post : Int32 → Sto → Prop) (σ : Sto) (v1 : Int32) (v2 : Int32) : Prop :=
  (((σ.1 0 7) ≤ v2 → (Post v1 σ)) ∧ (¬ (σ.1 0 7) ≤ v2 → (vp_in v2 132 ∧ (((σ.1 5 (v2).toNatClampNeg) = 0 → (K4 σ (v1 + (0 : Int32)) (v2 + (1 : Int32)))) ∧ (¬ (σ.1 5 (v2).toNatClampNeg) = 0 → (K4 σ (v1 + (1 : Int32)) (v2 + (1 : Int32))))))))
def X8_hiddenOnes_wp (σ : Sto)  (Post : Int32 → Sto → Prop) : Prop := ∀ (K4 : Sto → Int32 → Int32 → Prop), (∀ (σ : Sto) (v1 : Int32) (v2 : Int32), X8_hiddenOnes_b4  K4 Post σ v1 v2 → K4 σ v1 v2) → 
  (K4 σ (0 : Int32) (0 : Int32))
set_option maxHeartbeats 4000000 in
set_option maxRecDepth 100000 in
theorem mtX8_hiddenOnes (l : Launch) (D : va_G) (ad : Nat → Nat) (cA : Nat → ClassId) (A : Nat → Prop) (σ : Sto)  (Post : Int32 → Sto → Prop) (hwp : X8_hiddenOnes_wp σ  Post) : Met l yX8_hiddenOnes wsX8_hiddenOnes ({ frames := 0, cells := 0, slots := 0, locals := 0 }) (va_Pc [.ref (ad 0)] (stW D (tyM cA) nwM (wM ad cA) A σ)) (va_Qi Post (enW D (wM ad cA) A) A) 0 0 A := by
  refine Met.ofW (cc := cX8_hiddenOnes) (maxL := 3) (ret := (some .int)) (by decide) rfl ?_
  intro p e s m args below meth c s₁ B hml hv
  obtain ⟨rfl, hA, hN, hP, hK, hD⟩ := hv
  have hx := B.exec
  have hb := B.bytes
  have hr := B.returns
  have hts := atoms_spec (ws := wsX8_hiddenOnes) B.pre
  have hown : s.vm.findClass RX8 = some m.cls := findClass_of_methodNamed B.named
  have hlocks := B.notSynchronized
  have hiX8 : ∀ w ∈ wsX80, w ∈ wsX8_hiddenOnes := by decide +kernel
  have hS : va_S A s.heap s.heap [] := va_S.rf
  have hl := lv_entry ([.ref (ad 0)]) (n := 3) (Nat.le_of_ble_eq_true rfl)
  rw [lg_entry_eq]
  generalize (lg_sl ([.ref (ad 0)]) ++ List.replicate (3 - (lg_sl ([.ref (ad 0)])).length) Slot.unset).toArray = ls at hl ⊢
  have hl : lv_has ls 3 [(0, .ref (ad 0))] := hl
  obtain ⟨K4, hK4⟩ : ∃ K : Sto → Int32 → Int32 → Prop, K = fun (σ : Sto) (v1 : Int32) (v2 : Int32) => ∀ (H : Heap) (locs : List Loc) (ls : Array Slot), va_P D vwCl ((wM ad cA) σ) H → va_D A ((wM ad cA) σ) → va_S A s.heap H locs → lv_has ls 3 [(0, .ref (ad 0)), (1, .int v1), (2, .int v2)] → W p l e (headSpec wsX8_hiddenOnes ({ frames := 0, cells := 0, slots := 0, locals := 0 })).room s m ([.ref (ad 0)] : List Value).toArray below meth c H locs 0 0 (MQ below (va_Qi Post (enW D (wM ad cA) A) A) ([.ref (ad 0)] : List Value).toArray s 0 0 A) (F0 m 4 ls []) := ⟨_, rfl⟩
  have hk4 : ∀ (σ : Sto) (v1 : Int32) (v2 : Int32), X8_hiddenOnes_b4  K4 Post σ v1 v2 → K4 σ v1 v2 := by
    intro σ v1 v2 hq
    rw [hK4]
    intro H locs ls hP hD hS hl
    unfold X8_hiddenOnes_b4 at hq
    refine lv_iload_n hx hb dX8_hiddenOnes_4 rfl (lv_at hl 2 rfl) ?_
    refine lv_aload_n hx hb dX8_hiddenOnes_5 rfl (lv_at hl 0 rfl) ?_
    refine va_get (D := D) (ci := 8) (v := .int (σ.1 0 7)) (C := RX8) (T := TX8) (N := 32) hx hb hts hiX8 hown hK hP 0 wMg0 rfl 7 (by decide) (hts (.fieldLink RX8 92 "ArcGuesserModel" "arcs" "I") (List.mem_of_getElem? (i := 1) rfl)) (fun _ h9 => h9) rfl dX8_hiddenOnes_6 ?_
    refine lv_icmp_ge (tgt := 35) hx hb dX8_hiddenOnes_9 (by decide) (fun hc => ?_) (fun hc => ?_)
    · have hq := hq.1 hc
      refine lv_iload_n hx hb dX8_hiddenOnes_35 rfl (lv_at hl 1 rfl) ?_
      exact W.iret (v := v1) hx hb hr (fun t ht hW => ⟨⟨v1, σ, rfl, hq, by rw [ht]; exact hP, hD⟩, hS.F ht⟩) hS.2.2 dX8_hiddenOnes_36
    · have hq := hq.2 hc
      refine lv_iload_n hx hb dX8_hiddenOnes_12 rfl (lv_at hl 1 rfl) ?_
      refine lv_aload_n hx hb dX8_hiddenOnes_13 rfl (lv_at hl 0 rfl) ?_
      refine va_get (D := D) (ci := 8) (v := .ref (ad 5)) (C := RX8) (T := TX8) (N := 32) hx hb hts hiX8 hown hK hP 0 wMg0 rfl 6 (by decide) (hts (.fieldLink RX8 26 "ArcGuesserModel" "hidden" "[Z") (List.mem_of_getElem? (i := 2) rfl)) (fun _ h9 => h9) rfl dX8_hiddenOnes_14 ?_
      refine lv_iload_n hx hb dX8_hiddenOnes_17 rfl (lv_at hl 2 rfl) ?_
      refine va_zald hx hb hK hP 5 2 wMg5 rfl hq.1 dX8_hiddenOnes_18 ?_
      have hq := hq.2
      refine lv_if_eq (tgt := 26) hx hb dX8_hiddenOnes_19 (by decide) (fun hc => ?_) (fun hc => ?_)
      · have hq := hq.1 hc
        refine lv_iconst (v := (0 : Int32)) hx hb dX8_hiddenOnes_26 (by decide) ?_
        refine lv_iadd hx hb dX8_hiddenOnes_27 ?_
        refine lv_istore_n (lv' := [(1, .int (v1 + (0 : Int32))), (0, .ref (ad 0)), (2, .int v2)]) hx hb dX8_hiddenOnes_28 rfl hl (by decide) rfl (fun ls hl => ?_)
        refine lv_iinc (v := (v2 + (1 : Int32))) (lv' := [(2, .int (v2 + (1 : Int32))), (1, .int (v1 + (0 : Int32))), (0, .ref (ad 0))]) hx hb dX8_hiddenOnes_29 hl (k := 2) rfl (by rfl) (by decide) rfl (fun ls hl => ?_)
        refine lv_goto (tgt := 4) hx hb dX8_hiddenOnes_32 (by decide) ?_
        rw [hK4] at hq
        exact hq _ _ _ hP hD hS (lv_sub hl [2, 1, 0] rfl)
      · have hq := hq.2 hc
        refine lv_iconst (v := (1 : Int32)) hx hb dX8_hiddenOnes_22 (by decide) ?_
        refine lv_goto (tgt := 27) hx hb dX8_hiddenOnes_23 (by decide) ?_
        refine lv_iadd hx hb dX8_hiddenOnes_27 ?_
        refine lv_istore_n (lv' := [(1, .int (v1 + (1 : Int32))), (0, .ref (ad 0)), (2, .int v2)]) hx hb dX8_hiddenOnes_28 rfl hl (by decide) rfl (fun ls hl => ?_)
        refine lv_iinc (v := (v2 + (1 : Int32))) (lv' := [(2, .int (v2 + (1 : Int32))), (1, .int (v1 + (1 : Int32))), (0, .ref (ad 0))]) hx hb dX8_hiddenOnes_29 hl (k := 2) rfl (by rfl) (by decide) rfl (fun ls hl => ?_)
        refine lv_goto (tgt := 4) hx hb dX8_hiddenOnes_32 (by decide) ?_
        rw [hK4] at hq
        exact hq _ _ _ hP hD hS (lv_sub hl [2, 1, 0] rfl)
  have hq := hwp K4 hk4
  refine lv_iconst (v := (0 : Int32)) hx hb dX8_hiddenOnes_0 (by decide) ?_
  refine lv_istore_n (lv' := [(1, .int (0 : Int32)), (0, .ref (ad 0))]) hx hb dX8_hiddenOnes_1 rfl hl (by decide) rfl (fun ls hl => ?_)
  refine lv_iconst (v := (0 : Int32)) hx hb dX8_hiddenOnes_2 (by decide) ?_
  refine lv_istore_n (lv' := [(2, .int (0 : Int32)), (1, .int (0 : Int32)), (0, .ref (ad 0))]) hx hb dX8_hiddenOnes_3 rfl hl (by decide) rfl (fun ls hl => ?_)
  rw [hK4] at hq
  exact hq _ _ _ hP hD hS (lv_sub hl [2, 1, 0] rfl)
/-! ArcGuesserModel.count(I)I -/
def X8_count_wp (σ : Sto) (p1 : Int32) (Post : Int32 → Sto → Prop) : Prop :=
  ((p1 = (0 : Int32) → (Post (σ.1 0 0) σ)) ∧ (p1 = (1 : Int32) → (X8_pairs_wp σ  (fun r1 σ1 => (Post r1 σ1)))) ∧ (p1 = (2 : Int32) → (Post (σ.1 0 7) σ)) ∧ (p1 = (3 : Int32) → (X8_hiddenOnes_wp σ  (fun r2 σ2 => (Post r2 σ2)))) ∧ (p1 = (4 : Int32) → (X8_rank_wp σ  (fun r3 σ3 => (Post r3 σ3)))) ∧ (¬ p1 = (0 : Int32) → ¬ p1 = (1 : Int32) → ¬ p1 = (2 : Int32) → ¬ p1 = (3 : Int32) → ¬ p1 = (4 : Int32) → (Post (-2 : Int32) σ)))
set_option maxHeartbeats 4000000 in
set_option maxRecDepth 100000 in
theorem mtX8_count (l : Launch) (D : va_G) (ad : Nat → Nat) (cA : Nat → ClassId) (A : Nat → Prop) (σ : Sto) (p1 : Int32) (Post : Int32 → Sto → Prop) (hwp : X8_count_wp σ p1 Post) : Met l yX8_count wsX8_count ({ frames := 8, cells := 0, slots := 0, locals := 216 }) (va_Pc [.ref (ad 0), .int p1] (stW D (tyM cA) nwM (wM ad cA) A σ)) (va_Qi Post (enW D (wM ad cA) A) A) 0 0 A := by
  refine Met.ofW (cc := cX8_count) (maxL := 2) (ret := (some .int)) (by decide) rfl ?_
  intro p e s m args below meth c s₁ B hml hv
  obtain ⟨rfl, hA, hN, hP, hK, hD⟩ := hv
  have hx := B.exec
  have hb := B.bytes
  have hr := B.returns
  have hts := atoms_spec (ws := wsX8_count) B.pre
  have hown : s.vm.findClass RX8 = some m.cls := findClass_of_methodNamed B.named
  have hlocks := B.notSynchronized
  have hiX8 : ∀ w ∈ wsX80, w ∈ wsX8_count := by decide +kernel
  have hS : va_S A s.heap s.heap [] := va_S.rf
  have hl := lv_entry ([.ref (ad 0), .int p1]) (n := 2) (Nat.le_of_ble_eq_true rfl)
  rw [lg_entry_eq]
  generalize (lg_sl ([.ref (ad 0), .int p1]) ++ List.replicate (2 - (lg_sl ([.ref (ad 0), .int p1])).length) Slot.unset).toArray = ls at hl ⊢
  have hl : lv_has ls 2 [(0, .ref (ad 0)), (1, .int p1)] := hl
  have hq := hwp
  unfold X8_count_wp at hq
  refine lv_iload_n hx hb dX8_count_0 rfl (lv_at hl 1 rfl) ?_
  by_cases hc0 : p1 = (0 : Int32)
  · have hq := hq.1 hc0
    refine lv_tableIn (off := 35) (tgt := 36) hx hb dX8_count_1 (by rw [hc0]; decide) (by rw [hc0]; decide) (by rw [hc0]; rfl) (by decide) ?_
    refine lv_aload_n hx hb dX8_count_36 rfl (lv_at hl 0 rfl) ?_
    refine va_get (D := D) (ci := 8) (v := .int (σ.1 0 0)) (C := RX8) (T := TX8) (N := 32) hx hb hts hiX8 hown hK hP 0 wMg0 rfl 0 (by decide) (hts (.fieldLink RX8 7 "ArcGuesserModel" "n" "I") (List.mem_of_getElem? (i := 1) rfl)) (fun _ h9 => h9) rfl dX8_count_37 ?_
    exact W.iret (v := (σ.1 0 0)) hx hb hr (fun t ht hW => ⟨⟨(σ.1 0 0), σ, rfl, hq, by rw [ht]; exact hP, hD⟩, hS.F ht⟩) hS.2.2 dX8_count_40
  have hq := hq.2
  by_cases hc1 : p1 = (1 : Int32)
  · have hq := hq.1 hc1
    refine lv_tableIn (off := 40) (tgt := 41) hx hb dX8_count_1 (by rw [hc1]; decide) (by rw [hc1]; decide) (by rw [hc1]; rfl) (by decide) ?_
    refine lv_aload_n hx hb dX8_count_41 rfl (lv_at hl 0 rfl) ?_
    refine w_calli (va_runV (As := []) (rest := []) ⟨hx, hb, hml, hown, hts⟩ (mtX8_pairs l D ad cA A σ  _ hq) (cwV 0 hts gX8_count_X8_pairs rfl rfl rfl (by decide +kernel) ⟨Nat.le_of_ble_eq_true rfl, Nat.le_of_ble_eq_true rfl⟩) ⟨stW_blind nwM_ok, va_recv hK hP (ci := 8) (q0 := 0) rfl wMg0, stW_pass hA hS hN hK hP hD nwM_ok⟩ rfl rfl hl.1 rfl (lv_room (Nat.le_of_ble_eq_true rfl)) dX8_count_42 ⟨Nat.le_of_ble_eq_true rfl, Nat.le_of_ble_eq_true rfl⟩) hS (fun r1 σ1 H locs hq hP hD hS => ?_)
    exact W.iret (v := r1) hx hb hr (fun t ht hW => ⟨⟨r1, σ1, rfl, hq, by rw [ht]; exact hP, hD⟩, hS.F ht⟩) hS.2.2 dX8_count_45
  have hq := hq.2
  by_cases hc2 : p1 = (2 : Int32)
  · have hq := hq.1 hc2
    refine lv_tableIn (off := 45) (tgt := 46) hx hb dX8_count_1 (by rw [hc2]; decide) (by rw [hc2]; decide) (by rw [hc2]; rfl) (by decide) ?_
    refine lv_aload_n hx hb dX8_count_46 rfl (lv_at hl 0 rfl) ?_
    refine va_get (D := D) (ci := 8) (v := .int (σ.1 0 7)) (C := RX8) (T := TX8) (N := 32) hx hb hts hiX8 hown hK hP 0 wMg0 rfl 7 (by decide) (hts (.fieldLink RX8 92 "ArcGuesserModel" "arcs" "I") (List.mem_of_getElem? (i := 2) rfl)) (fun _ h9 => h9) rfl dX8_count_47 ?_
    exact W.iret (v := (σ.1 0 7)) hx hb hr (fun t ht hW => ⟨⟨(σ.1 0 7), σ, rfl, hq, by rw [ht]; exact hP, hD⟩, hS.F ht⟩) hS.2.2 dX8_count_50
  have hq := hq.2
  by_cases hc3 : p1 = (3 : Int32)
  · have hq := hq.1 hc3
    refine lv_tableIn (off := 50) (tgt := 51) hx hb dX8_count_1 (by rw [hc3]; decide) (by rw [hc3]; decide) (by rw [hc3]; rfl) (by decide) ?_
    refine lv_aload_n hx hb dX8_count_51 rfl (lv_at hl 0 rfl) ?_
    refine w_calli (va_runV (As := []) (rest := []) ⟨hx, hb, hml, hown, hts⟩ (mtX8_hiddenOnes l D ad cA A σ  _ hq) (cwV 0 hts gX8_count_X8_hiddenOnes rfl rfl rfl (by decide +kernel) ⟨Nat.le_of_ble_eq_true rfl, Nat.le_of_ble_eq_true rfl⟩) ⟨stW_blind nwM_ok, va_recv hK hP (ci := 8) (q0 := 0) rfl wMg0, stW_pass hA hS hN hK hP hD nwM_ok⟩ rfl rfl hl.1 rfl (lv_room (Nat.le_of_ble_eq_true rfl)) dX8_count_52 ⟨Nat.le_of_ble_eq_true rfl, Nat.le_of_ble_eq_true rfl⟩) hS (fun r2 σ2 H locs hq hP hD hS => ?_)
    exact W.iret (v := r2) hx hb hr (fun t ht hW => ⟨⟨r2, σ2, rfl, hq, by rw [ht]; exact hP, hD⟩, hS.F ht⟩) hS.2.2 dX8_count_55
  have hq := hq.2
  by_cases hc4 : p1 = (4 : Int32)
  · have hq := hq.1 hc4
    refine lv_tableIn (off := 55) (tgt := 56) hx hb dX8_count_1 (by rw [hc4]; decide) (by rw [hc4]; decide) (by rw [hc4]; rfl) (by decide) ?_
    refine lv_aload_n hx hb dX8_count_56 rfl (lv_at hl 0 rfl) ?_
    refine w_calli (va_runV (As := []) (rest := []) ⟨hx, hb, hml, hown, hts⟩ (mtX8_rank l D ad cA A σ  _ hq) (cwV 0 hts gX8_count_X8_rank rfl rfl rfl (by decide +kernel) ⟨Nat.le_of_ble_eq_true rfl, Nat.le_of_ble_eq_true rfl⟩) ⟨stW_blind nwM_ok, va_recv hK hP (ci := 8) (q0 := 0) rfl wMg0, stW_pass hA hS hN hK hP hD nwM_ok⟩ rfl rfl hl.1 rfl (lv_room (Nat.le_of_ble_eq_true rfl)) dX8_count_57 ⟨Nat.le_of_ble_eq_true rfl, Nat.le_of_ble_eq_true rfl⟩) hS (fun r3 σ3 H locs hq hP hD hS => ?_)
    exact W.iret (v := r3) hx hb hr (fun t ht hW => ⟨⟨r3, σ3, rfl, hq, by rw [ht]; exact hP, hD⟩, hS.F ht⟩) hS.2.2 dX8_count_60
  have hq := hq.2
  have hq := hq hc0 hc1 hc2 hc3 hc4
  refine lv_tableOut (tgt := 61) hx hb dX8_count_1 (by have e0 := lv_neT hc0 (a := 0) (by decide); have e1 := lv_neT hc1 (a := 1) (by decide); have e2 := lv_neT hc2 (a := 2) (by decide); have e3 := lv_neT hc3 (a := 3) (by decide); have e4 := lv_neT hc4 (a := 4) (by decide); omega) (by decide) ?_
  refine lv_bipush (v := (-2 : Int32)) hx hb dX8_count_61 (by decide) ?_
  exact W.iret (v := (-2 : Int32)) hx hb hr (fun t ht hW => ⟨⟨(-2 : Int32), σ, rfl, hq, by rw [ht]; exact hP, hD⟩, hS.F ht⟩) hS.2.2 dX8_count_63
/-! ArcGuesserModel.draw()I -/
def X8_draw_wp (σ : Sto)  (Post : Int32 → Sto → Prop) : Prop :=
  (Post (((((1664525 : Int32) * (σ.1 0 18)) + (1013904223 : Int32))).toUInt32 >>> (((8 : Int32)).toUInt32 &&& Int32.toUInt32 31)).toInt32 (sI σ 0 18 (((1664525 : Int32) * (σ.1 0 18)) + (1013904223 : Int32))))
set_option maxHeartbeats 4000000 in
set_option maxRecDepth 100000 in
theorem mtX8_draw (l : Launch) (D : va_G) (ad : Nat → Nat) (cA : Nat → ClassId) (A : Nat → Prop) (σ : Sto)  (Post : Int32 → Sto → Prop) (hwp : X8_draw_wp σ  Post) : Met l yX8_draw wsX8_draw ({ frames := 0, cells := 0, slots := 0, locals := 0 }) (va_Pc [.ref (ad 0)] (stW D (tyM cA) nwM (wM ad cA) A σ)) (va_Qi Post (enW D (wM ad cA) A) A) 0 0 A := by
  refine Met.ofW (cc := cX8_draw) (maxL := 1) (ret := (some .int)) (by decide) rfl ?_
  intro p e s m args below meth c s₁ B hml hv
  obtain ⟨rfl, hA, hN, hP, hK, hD⟩ := hv
  have hx := B.exec
  have hb := B.bytes
  have hr := B.returns
  have hts := atoms_spec (ws := wsX8_draw) B.pre
  have hown : s.vm.findClass RX8 = some m.cls := findClass_of_methodNamed B.named
  have hlocks := B.notSynchronized
  have hiX8 : ∀ w ∈ wsX80, w ∈ wsX8_draw := by decide +kernel
  have hS : va_S A s.heap s.heap [] := va_S.rf
  have hl := lv_entry ([.ref (ad 0)]) (n := 1) (Nat.le_of_ble_eq_true rfl)
  rw [lg_entry_eq]
  generalize (lg_sl ([.ref (ad 0)]) ++ List.replicate (1 - (lg_sl ([.ref (ad 0)])).length) Slot.unset).toArray = ls at hl ⊢
  have hl : lv_has ls 1 [(0, .ref (ad 0))] := hl
  have hq := hwp
  unfold X8_draw_wp at hq
  refine lv_aload_n hx hb dX8_draw_0 rfl (lv_at hl 0 rfl) ?_
  refine lv_ldc (v := (1664525 : Int32)) hx hb hown (hts (.constant RX8 119 (1664525)) (List.mem_of_getElem? (i := 1) rfl)) dX8_draw_1 ?_
  refine lv_aload_n hx hb dX8_draw_3 rfl (lv_at hl 0 rfl) ?_
  refine va_get (D := D) (ci := 8) (v := .int (σ.1 0 18)) (C := RX8) (T := TX8) (N := 32) hx hb hts hiX8 hown hK hP 0 wMg0 rfl 18 (by decide) (hts (.fieldLink RX8 120 "ArcGuesserModel" "z" "I") (List.mem_of_getElem? (i := 2) rfl)) (fun _ h9 => h9) rfl dX8_draw_4 ?_
  refine lv_imul hx hb dX8_draw_7 ?_
  refine lv_ldc (v := (1013904223 : Int32)) hx hb hown (hts (.constant RX8 123 (1013904223)) (List.mem_of_getElem? (i := 3) rfl)) dX8_draw_8 ?_
  refine lv_iadd hx hb dX8_draw_10 ?_
  refine va_put (D := D) (ci := 8) (v := .int (((1664525 : Int32) * (σ.1 0 18)) + (1013904223 : Int32))) (ty := .int) (C := RX8) (T := TX8) (N := 32) hx hb hts hiX8 tyX8 tyX8_ok nmX8 hown hK hP hD hS 0 wMg0 rfl 18 (by decide) (hts (.fieldLink RX8 120 "ArcGuesserModel" "z" "I") (List.mem_of_getElem? (i := 2) rfl)) (fun _ h9 => h9) rfl (by decide +kernel) rfl rfl (Nat.le_of_ble_eq_true rfl) dX8_draw_11 (fun H locs hP hD hS => ?_)
  have hP := wMfP0_18 hP
  have hD := wMfD0_18 hD
  refine lv_aload_n hx hb dX8_draw_14 rfl (lv_at hl 0 rfl) ?_
  refine va_get (D := D) (ci := 8) (v := .int (((1664525 : Int32) * (σ.1 0 18)) + (1013904223 : Int32))) (C := RX8) (T := TX8) (N := 32) hx hb hts hiX8 hown hK hP 0 wMg0 rfl 18 (by decide) (hts (.fieldLink RX8 120 "ArcGuesserModel" "z" "I") (List.mem_of_getElem? (i := 2) rfl)) (fun _ h9 => h9) rfl dX8_draw_15 ?_
  refine lv_bipush (v := (8 : Int32)) hx hb dX8_draw_18 (by decide) ?_
  refine lv_iushr hx hb dX8_draw_20 rfl ?_
  exact W.iret (v := (((((1664525 : Int32) * (σ.1 0 18)) + (1013904223 : Int32))).toUInt32 >>> (((8 : Int32)).toUInt32 &&& Int32.toUInt32 31)).toInt32) hx hb hr (fun t ht hW => ⟨⟨(((((1664525 : Int32) * (σ.1 0 18)) + (1013904223 : Int32))).toUInt32 >>> (((8 : Int32)).toUInt32 &&& Int32.toUInt32 31)).toInt32, (sI σ 0 18 (((1664525 : Int32) * (σ.1 0 18)) + (1013904223 : Int32))), rfl, hq, by rw [ht]; exact hP, hD⟩, hS.F ht⟩) hS.2.2 dX8_draw_21
/-! ArcGuesserModel.fresh()V -/
def X8_fresh_b6  (K6 : Sto → Int32 → Prop) (K33 : Sto → Int32 → Prop) (K54 : Sto → Int32 → Prop) (Post : Sto → Prop) (σ : Sto) (v1 : Int32) : Prop :=
  (((144 : Int32) ≤ v1 → (K33 (sI σ 0 7 (0 : Int32)) (0 : Int32))) ∧ (¬ (144 : Int32) ≤ v1 → (vp_in v1 144 ∧ (K6 (sI σ 1 (v1).toNatClampNeg (0 : Int32)) (v1 + (1 : Int32))))))
def X8_fresh_b33  (K6 : Sto → Int32 → Prop) (K33 : Sto → Int32 → Prop) (K54 : Sto → Int32 → Prop) (Post : Sto → Prop) (σ : Sto) (v1 : Int32) : Prop :=
  (((12 : Int32) ≤ v1 → (K54 σ (0 : Int32))) ∧ (¬ (12 : Int32) ≤ v1 → (vp_in v1 12 ∧ (K33 (sI σ 6 (v1).toNatClampNeg (0 : Int32)) (v1 + (1 : Int32))))))
def X8_fresh_b54  (K6 : Sto → Int32 → Prop) (K33 : Sto → Int32 → Prop) (K54 : Sto → Int32 → Prop) (Post : Sto → Prop) (σ : Sto) (v1 : Int32) : Prop :=
  (((11 : Int32) ≤ v1 → (vp_in (0 : Int32) 11 ∧ (Post (sJ (sJ (sI (sI (sI (sI σ 7 ((0 : Int32)).toNatClampNeg (1 : Int32)) 0 10 (1 : Int32)) 0 11 (1 : Int32)) 0 12 (2 : Int32)) 0 16 (0 : Int64)) 0 17 (1 : Int64))))) ∧ (¬ (11 : Int32) ≤ v1 → (vp_in v1 11 ∧ (K54 (sI σ 7 (v1).toNatClampNeg (0 : Int32)) (v1 + (1 : Int32))))))
def X8_fresh_wp (σ : Sto)  (Post : Sto → Prop) : Prop := ∀ (K6 : Sto → Int32 → Prop) (K33 : Sto → Int32 → Prop) (K54 : Sto → Int32 → Prop), (∀ (σ : Sto) (v1 : Int32), X8_fresh_b6  K6 K33 K54 Post σ v1 → K6 σ v1) → (∀ (σ : Sto) (v1 : Int32), X8_fresh_b33  K6 K33 K54 Post σ v1 → K33 σ v1) → (∀ (σ : Sto) (v1 : Int32), X8_fresh_b54  K6 K33 K54 Post σ v1 → K54 σ v1) → 
  (X8_changed_wp σ  (fun σ1 => (K6 σ1 (0 : Int32))))
set_option maxHeartbeats 4000000 in
set_option maxRecDepth 100000 in
theorem mtX8_fresh (l : Launch) (D : va_G) (ad : Nat → Nat) (cA : Nat → ClassId) (A : Nat → Prop) (σ : Sto)  (Post : Sto → Prop) (hwp : X8_fresh_wp σ  Post) : Met l yX8_fresh wsX8_fresh ({ frames := 1, cells := 0, slots := 0, locals := 21 }) (va_Pc [.ref (ad 0)] (stW D (tyM cA) nwM (wM ad cA) A σ)) (va_Qv Post (enW D (wM ad cA) A) A) 0 0 A := by
  refine Met.ofW (cc := cX8_fresh) (maxL := 2) (ret := none) (by decide) rfl ?_
  intro p e s m args below meth c s₁ B hml hv
  obtain ⟨rfl, hA, hN, hP, hK, hD⟩ := hv
  have hx := B.exec
  have hb := B.bytes
  have hr := B.returns
  have hts := atoms_spec (ws := wsX8_fresh) B.pre
  have hown : s.vm.findClass RX8 = some m.cls := findClass_of_methodNamed B.named
  have hlocks := B.notSynchronized
  have hiX8 : ∀ w ∈ wsX80, w ∈ wsX8_fresh := by decide +kernel
  have hS : va_S A s.heap s.heap [] := va_S.rf
  have hl := lv_entry ([.ref (ad 0)]) (n := 2) (Nat.le_of_ble_eq_true rfl)
  rw [lg_entry_eq]
  generalize (lg_sl ([.ref (ad 0)]) ++ List.replicate (2 - (lg_sl ([.ref (ad 0)])).length) Slot.unset).toArray = ls at hl ⊢
  have hl : lv_has ls 2 [(0, .ref (ad 0))] := hl
  obtain ⟨K6, hK6⟩ : ∃ K : Sto → Int32 → Prop, K = fun (σ : Sto) (v1 : Int32) => ∀ (H : Heap) (locs : List Loc) (ls : Array Slot), va_P D vwCl ((wM ad cA) σ) H → va_D A ((wM ad cA) σ) → va_S A s.heap H locs → lv_has ls 2 [(0, .ref (ad 0)), (1, .int v1)] → W p l e (headSpec wsX8_fresh ({ frames := 1, cells := 0, slots := 0, locals := 21 })).room s m ([.ref (ad 0)] : List Value).toArray below meth c H locs 0 0 (MQ below (va_Qv Post (enW D (wM ad cA) A) A) ([.ref (ad 0)] : List Value).toArray s 0 0 A) (F0 m 6 ls []) := ⟨_, rfl⟩
  obtain ⟨K33, hK33⟩ : ∃ K : Sto → Int32 → Prop, K = fun (σ : Sto) (v1 : Int32) => ∀ (H : Heap) (locs : List Loc) (ls : Array Slot), va_P D vwCl ((wM ad cA) σ) H → va_D A ((wM ad cA) σ) → va_S A s.heap H locs → lv_has ls 2 [(0, .ref (ad 0)), (1, .int v1)] → W p l e (headSpec wsX8_fresh ({ frames := 1, cells := 0, slots := 0, locals := 21 })).room s m ([.ref (ad 0)] : List Value).toArray below meth c H locs 0 0 (MQ below (va_Qv Post (enW D (wM ad cA) A) A) ([.ref (ad 0)] : List Value).toArray s 0 0 A) (F0 m 33 ls []) := ⟨_, rfl⟩
  obtain ⟨K54, hK54⟩ : ∃ K : Sto → Int32 → Prop, K = fun (σ : Sto) (v1 : Int32) => ∀ (H : Heap) (locs : List Loc) (ls : Array Slot), va_P D vwCl ((wM ad cA) σ) H → va_D A ((wM ad cA) σ) → va_S A s.heap H locs → lv_has ls 2 [(0, .ref (ad 0)), (1, .int v1)] → W p l e (headSpec wsX8_fresh ({ frames := 1, cells := 0, slots := 0, locals := 21 })).room s m ([.ref (ad 0)] : List Value).toArray below meth c H locs 0 0 (MQ below (va_Qv Post (enW D (wM ad cA) A) A) ([.ref (ad 0)] : List Value).toArray s 0 0 A) (F0 m 54 ls []) := ⟨_, rfl⟩
  have hk6 : ∀ (σ : Sto) (v1 : Int32), X8_fresh_b6  K6 K33 K54 Post σ v1 → K6 σ v1 := by
    intro σ v1 hq
    rw [hK6]
    intro H locs ls hP hD hS hl
    unfold X8_fresh_b6 at hq
    refine lv_iload_n hx hb dX8_fresh_6 rfl (lv_at hl 1 rfl) ?_
    refine lv_sipush (v := (144 : Int32)) hx hb dX8_fresh_7 (by decide) ?_
    refine lv_icmp_ge (tgt := 26) hx hb dX8_fresh_10 (by decide) (fun hc => ?_) (fun hc => ?_)
    · have hq := hq.1 hc
      refine lv_aload_n hx hb dX8_fresh_26 rfl (lv_at hl 0 rfl) ?_
      refine lv_iconst (v := (0 : Int32)) hx hb dX8_fresh_27 (by decide) ?_
      refine va_put (D := D) (ci := 8) (v := .int (0 : Int32)) (ty := .int) (C := RX8) (T := TX8) (N := 32) hx hb hts hiX8 tyX8 tyX8_ok nmX8 hown hK hP hD hS 0 wMg0 rfl 7 (by decide) (hts (.fieldLink RX8 92 "ArcGuesserModel" "arcs" "I") (List.mem_of_getElem? (i := 2) rfl)) (fun _ h9 => h9) rfl (by decide +kernel) rfl rfl (Nat.le_of_ble_eq_true rfl) dX8_fresh_28 (fun H locs hP hD hS => ?_)
      have hP := wMfP0_7 hP
      have hD := wMfD0_7 hD
      refine lv_iconst (v := (0 : Int32)) hx hb dX8_fresh_31 (by decide) ?_
      refine lv_istore_n (lv' := [(1, .int (0 : Int32)), (0, .ref (ad 0))]) hx hb dX8_fresh_32 rfl hl (by decide) rfl (fun ls hl => ?_)
      rw [hK33] at hq
      exact hq _ _ _ hP hD hS (lv_sub hl [1, 0] rfl)
    · have hq := hq.2 hc
      refine lv_aload_n hx hb dX8_fresh_13 rfl (lv_at hl 0 rfl) ?_
      refine va_get (D := D) (ci := 8) (v := .ref (ad 1)) (C := RX8) (T := TX8) (N := 32) hx hb hts hiX8 hown hK hP 0 wMg0 rfl 2 (by decide) (hts (.fieldLink RX8 13 "ArcGuesserModel" "arcAt" "[I") (List.mem_of_getElem? (i := 1) rfl)) (fun _ h9 => h9) rfl dX8_fresh_14 ?_
      refine lv_iload_n hx hb dX8_fresh_17 rfl (lv_at hl 1 rfl) ?_
      refine lv_iconst (v := (0 : Int32)) hx hb dX8_fresh_18 (by decide) ?_
      refine va_iast hx hb hK hP hD hS 1 0 wMg1 rfl hq.1 dX8_fresh_19 (fun H locs hP hD hS => ?_)
      have hP := wMsP1 hP
      have hD := wMsD1 hD
      have hq := hq.2
      refine lv_iinc (v := (v1 + (1 : Int32))) (lv' := [(1, .int (v1 + (1 : Int32))), (0, .ref (ad 0))]) hx hb dX8_fresh_20 hl (k := 1) rfl (by rfl) (by decide) rfl (fun ls hl => ?_)
      refine lv_goto (tgt := 6) hx hb dX8_fresh_23 (by decide) ?_
      rw [hK6] at hq
      exact hq _ _ _ hP hD hS (lv_sub hl [1, 0] rfl)
  have hk33 : ∀ (σ : Sto) (v1 : Int32), X8_fresh_b33  K6 K33 K54 Post σ v1 → K33 σ v1 := by
    intro σ v1 hq
    rw [hK33]
    intro H locs ls hP hD hS hl
    unfold X8_fresh_b33 at hq
    refine lv_iload_n hx hb dX8_fresh_33 rfl (lv_at hl 1 rfl) ?_
    refine lv_bipush (v := (12 : Int32)) hx hb dX8_fresh_34 (by decide) ?_
    refine lv_icmp_ge (tgt := 52) hx hb dX8_fresh_36 (by decide) (fun hc => ?_) (fun hc => ?_)
    · have hq := hq.1 hc
      refine lv_iconst (v := (0 : Int32)) hx hb dX8_fresh_52 (by decide) ?_
      refine lv_istore_n (lv' := [(1, .int (0 : Int32)), (0, .ref (ad 0))]) hx hb dX8_fresh_53 rfl hl (by decide) rfl (fun ls hl => ?_)
      rw [hK54] at hq
      exact hq _ _ _ hP hD hS (lv_sub hl [1, 0] rfl)
    · have hq := hq.2 hc
      refine lv_aload_n hx hb dX8_fresh_39 rfl (lv_at hl 0 rfl) ?_
      refine va_get (D := D) (ci := 8) (v := .ref (ad 6)) (C := RX8) (T := TX8) (N := 32) hx hb hts hiX8 hown hK hP 0 wMg0 rfl 8 (by decide) (hts (.fieldLink RX8 30 "ArcGuesserModel" "groups" "[I") (List.mem_of_getElem? (i := 3) rfl)) (fun _ h9 => h9) rfl dX8_fresh_40 ?_
      refine lv_iload_n hx hb dX8_fresh_43 rfl (lv_at hl 1 rfl) ?_
      refine lv_iconst (v := (0 : Int32)) hx hb dX8_fresh_44 (by decide) ?_
      refine va_iast hx hb hK hP hD hS 6 0 wMg6 rfl hq.1 dX8_fresh_45 (fun H locs hP hD hS => ?_)
      have hP := wMsP6 hP
      have hD := wMsD6 hD
      have hq := hq.2
      refine lv_iinc (v := (v1 + (1 : Int32))) (lv' := [(1, .int (v1 + (1 : Int32))), (0, .ref (ad 0))]) hx hb dX8_fresh_46 hl (k := 1) rfl (by rfl) (by decide) rfl (fun ls hl => ?_)
      refine lv_goto (tgt := 33) hx hb dX8_fresh_49 (by decide) ?_
      rw [hK33] at hq
      exact hq _ _ _ hP hD hS (lv_sub hl [1, 0] rfl)
  have hk54 : ∀ (σ : Sto) (v1 : Int32), X8_fresh_b54  K6 K33 K54 Post σ v1 → K54 σ v1 := by
    intro σ v1 hq
    rw [hK54]
    intro H locs ls hP hD hS hl
    unfold X8_fresh_b54 at hq
    refine lv_iload_n hx hb dX8_fresh_54 rfl (lv_at hl 1 rfl) ?_
    refine lv_bipush (v := (11 : Int32)) hx hb dX8_fresh_55 (by decide) ?_
    refine lv_icmp_ge (tgt := 73) hx hb dX8_fresh_57 (by decide) (fun hc => ?_) (fun hc => ?_)
    · have hq := hq.1 hc
      refine lv_aload_n hx hb dX8_fresh_73 rfl (lv_at hl 0 rfl) ?_
      refine va_get (D := D) (ci := 8) (v := .ref (ad 7)) (C := RX8) (T := TX8) (N := 32) hx hb hts hiX8 hown hK hP 0 wMg0 rfl 9 (by decide) (hts (.fieldLink RX8 33 "ArcGuesserModel" "weights" "[I") (List.mem_of_getElem? (i := 4) rfl)) (fun _ h9 => h9) rfl dX8_fresh_74 ?_
      refine lv_iconst (v := (0 : Int32)) hx hb dX8_fresh_77 (by decide) ?_
      refine lv_iconst (v := (1 : Int32)) hx hb dX8_fresh_78 (by decide) ?_
      refine va_iast hx hb hK hP hD hS 7 0 wMg7 rfl hq.1 dX8_fresh_79 (fun H locs hP hD hS => ?_)
      have hP := wMsP7 hP
      have hD := wMsD7 hD
      have hq := hq.2
      refine lv_aload_n hx hb dX8_fresh_80 rfl (lv_at hl 0 rfl) ?_
      refine lv_iconst (v := (1 : Int32)) hx hb dX8_fresh_81 (by decide) ?_
      refine va_put (D := D) (ci := 8) (v := .int (1 : Int32)) (ty := .int) (C := RX8) (T := TX8) (N := 32) hx hb hts hiX8 tyX8 tyX8_ok nmX8 hown hK hP hD hS 0 wMg0 rfl 10 (by decide) (hts (.fieldLink RX8 36 "ArcGuesserModel" "two" "I") (List.mem_of_getElem? (i := 5) rfl)) (fun _ h9 => h9) rfl (by decide +kernel) rfl rfl (Nat.le_of_ble_eq_true rfl) dX8_fresh_82 (fun H locs hP hD hS => ?_)
      have hP := wMfP0_10 hP
      have hD := wMfD0_10 hD
      refine lv_aload_n hx hb dX8_fresh_85 rfl (lv_at hl 0 rfl) ?_
      refine lv_iconst (v := (1 : Int32)) hx hb dX8_fresh_86 (by decide) ?_
      refine va_put (D := D) (ci := 8) (v := .int (1 : Int32)) (ty := .int) (C := RX8) (T := TX8) (N := 32) hx hb hts hiX8 tyX8 tyX8_ok nmX8 hown hK hP hD hS 0 wMg0 rfl 11 (by decide) (hts (.fieldLink RX8 39 "ArcGuesserModel" "three" "I") (List.mem_of_getElem? (i := 6) rfl)) (fun _ h9 => h9) rfl (by decide +kernel) rfl rfl (Nat.le_of_ble_eq_true rfl) dX8_fresh_87 (fun H locs hP hD hS => ?_)
      have hP := wMfP0_11 hP
      have hD := wMfD0_11 hD
      refine lv_aload_n hx hb dX8_fresh_90 rfl (lv_at hl 0 rfl) ?_
      refine lv_iconst (v := (2 : Int32)) hx hb dX8_fresh_91 (by decide) ?_
      refine va_put (D := D) (ci := 8) (v := .int (2 : Int32)) (ty := .int) (C := RX8) (T := TX8) (N := 32) hx hb hts hiX8 tyX8 tyX8_ok nmX8 hown hK hP hD hS 0 wMg0 rfl 12 (by decide) (hts (.fieldLink RX8 42 "ArcGuesserModel" "steps" "I") (List.mem_of_getElem? (i := 7) rfl)) (fun _ h9 => h9) rfl (by decide +kernel) rfl rfl (Nat.le_of_ble_eq_true rfl) dX8_fresh_92 (fun H locs hP hD hS => ?_)
      have hP := wMfP0_12 hP
      have hD := wMfD0_12 hD
      refine lv_aload_n hx hb dX8_fresh_95 rfl (lv_at hl 0 rfl) ?_
      refine lv_lconst (v := (0 : Int64)) hx hb dX8_fresh_96 (by decide) ?_
      refine va_put (D := D) (ci := 8) (v := .long (0 : Int64)) (ty := .long) (C := RX8) (T := TX8) (N := 32) hx hb hts hiX8 tyX8 tyX8_ok nmX8 hown hK hP hD hS 0 wMg0 rfl 16 (by decide) (hts (.fieldLink RX8 95 "ArcGuesserModel" "boardTop" "J") (List.mem_of_getElem? (i := 8) rfl)) (fun _ h9 => h9) rfl (by decide +kernel) rfl rfl (Nat.le_of_ble_eq_true rfl) dX8_fresh_97 (fun H locs hP hD hS => ?_)
      have hP := wMfP0_16 hP
      have hD := wMfD0_16 hD
      refine lv_aload_n hx hb dX8_fresh_100 rfl (lv_at hl 0 rfl) ?_
      refine lv_lconst (v := (1 : Int64)) hx hb dX8_fresh_101 (by decide) ?_
      refine va_put (D := D) (ci := 8) (v := .long (1 : Int64)) (ty := .long) (C := RX8) (T := TX8) (N := 32) hx hb hts hiX8 tyX8 tyX8_ok nmX8 hown hK hP hD hS 0 wMg0 rfl 17 (by decide) (hts (.fieldLink RX8 55 "ArcGuesserModel" "boardBottom" "J") (List.mem_of_getElem? (i := 9) rfl)) (fun _ h9 => h9) rfl (by decide +kernel) rfl rfl (Nat.le_of_ble_eq_true rfl) dX8_fresh_102 (fun H locs hP hD hS => ?_)
      have hP := wMfP0_17 hP
      have hD := wMfD0_17 hD
      exact W.vret hx hb hr (fun t ht hW => ⟨⟨(sJ (sJ (sI (sI (sI (sI σ 7 ((0 : Int32)).toNatClampNeg (1 : Int32)) 0 10 (1 : Int32)) 0 11 (1 : Int32)) 0 12 (2 : Int32)) 0 16 (0 : Int64)) 0 17 (1 : Int64)), rfl, hq, by rw [ht]; exact hP, hD⟩, hS.F ht⟩) hS.2.2 dX8_fresh_105
    · have hq := hq.2 hc
      refine lv_aload_n hx hb dX8_fresh_60 rfl (lv_at hl 0 rfl) ?_
      refine va_get (D := D) (ci := 8) (v := .ref (ad 7)) (C := RX8) (T := TX8) (N := 32) hx hb hts hiX8 hown hK hP 0 wMg0 rfl 9 (by decide) (hts (.fieldLink RX8 33 "ArcGuesserModel" "weights" "[I") (List.mem_of_getElem? (i := 4) rfl)) (fun _ h9 => h9) rfl dX8_fresh_61 ?_
      refine lv_iload_n hx hb dX8_fresh_64 rfl (lv_at hl 1 rfl) ?_
      refine lv_iconst (v := (0 : Int32)) hx hb dX8_fresh_65 (by decide) ?_
      refine va_iast hx hb hK hP hD hS 7 0 wMg7 rfl hq.1 dX8_fresh_66 (fun H locs hP hD hS => ?_)
      have hP := wMsP7 hP
      have hD := wMsD7 hD
      have hq := hq.2
      refine lv_iinc (v := (v1 + (1 : Int32))) (lv' := [(1, .int (v1 + (1 : Int32))), (0, .ref (ad 0))]) hx hb dX8_fresh_67 hl (k := 1) rfl (by rfl) (by decide) rfl (fun ls hl => ?_)
      refine lv_goto (tgt := 54) hx hb dX8_fresh_70 (by decide) ?_
      rw [hK54] at hq
      exact hq _ _ _ hP hD hS (lv_sub hl [1, 0] rfl)
  have hq := hwp K6 K33 K54 hk6 hk33 hk54
  refine lv_aload_n hx hb dX8_fresh_0 rfl (lv_at hl 0 rfl) ?_
  refine w_callv (va_runV (As := []) (rest := []) ⟨hx, hb, hml, hown, hts⟩ (mtX8_changed l D ad cA A σ  _ hq) (cwV 0 hts gX8_fresh_X8_changed rfl rfl rfl (by decide +kernel) ⟨Nat.le_of_ble_eq_true rfl, Nat.le_of_ble_eq_true rfl⟩) ⟨stW_blind nwM_ok, va_recv hK hP (ci := 8) (q0 := 0) rfl wMg0, stW_pass hA hS hN hK hP hD nwM_ok⟩ rfl rfl hl.1 rfl (lv_room (Nat.le_of_ble_eq_true rfl)) dX8_fresh_1 ⟨Nat.le_of_ble_eq_true rfl, Nat.le_of_ble_eq_true rfl⟩) hS (fun σ1 H locs hq hP hD hS => ?_)
  refine lv_iconst (v := (0 : Int32)) hx hb dX8_fresh_4 (by decide) ?_
  refine lv_istore_n (lv' := [(1, .int (0 : Int32)), (0, .ref (ad 0))]) hx hb dX8_fresh_5 rfl hl (by decide) rfl (fun ls hl => ?_)
  rw [hK6] at hq
  exact hq _ _ _ hP hD hS (lv_sub hl [1, 0] rfl)
