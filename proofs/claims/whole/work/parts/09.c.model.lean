/-! ArcGuesserModel.graph(II)I -/
def X8_graph_wp (σ : Sto) (p1 : Int32) (p2 : Int32) (Post : Int32 → Sto → Prop) : Prop :=
  ((p1 < (2 : Int32) → (Post (-2 : Int32) σ)) ∧ (¬ p1 < (2 : Int32) → (((12 : Int32) < p1 → (Post (-2 : Int32) σ)) ∧ (¬ (12 : Int32) < p1 → ((p2 < 0 → (Post (-2 : Int32) σ)) ∧ (¬ p2 < 0 → ((p2 ≤ (2 : Int32) → (X8_fresh_wp (sI (sI σ 0 0 p1) 0 1 p2)  (fun σ1 => (X8_pairs_wp σ1  (fun r2 σ2 => (Post r2 σ2)))))) ∧ (¬ p2 ≤ (2 : Int32) → (Post (-2 : Int32) σ)))))))))
set_option maxHeartbeats 4000000 in
set_option maxRecDepth 100000 in
theorem mtX8_graph (l : Launch) (D : va_G) (ad : Nat → Nat) (cA : Nat → ClassId) (A : Nat → Prop) (σ : Sto) (p1 : Int32) (p2 : Int32) (Post : Int32 → Sto → Prop) (hwp : X8_graph_wp σ p1 p2 Post) : Met l yX8_graph wsX8_graph ({ frames := 2, cells := 0, slots := 0, locals := 45 }) (va_Pc [.ref (ad 0), .int p1, .int p2] (stW D (tyM cA) nwM (wM ad cA) A σ)) (va_Qi Post (enW D (wM ad cA) A) A) 0 0 A := by
  refine Met.ofW (cc := cX8_graph) (maxL := 3) (ret := (some .int)) (by decide) rfl ?_
  intro p e s m args below meth c s₁ B hml hv
  obtain ⟨rfl, hA, hN, hP, hK, hD⟩ := hv
  have hx := B.exec
  have hb := B.bytes
  have hr := B.returns
  have hts := atoms_spec (ws := wsX8_graph) B.pre
  have hown : s.vm.findClass RX8 = some m.cls := findClass_of_methodNamed B.named
  have hlocks := B.notSynchronized
  have hiX8 : ∀ w ∈ wsX80, w ∈ wsX8_graph := by decide +kernel
  have hS : va_S A s.heap s.heap [] := va_S.rf
  have hl := lv_entry ([.ref (ad 0), .int p1, .int p2]) (n := 3) (Nat.le_of_ble_eq_true rfl)
  rw [lg_entry_eq]
  generalize (lg_sl ([.ref (ad 0), .int p1, .int p2]) ++ List.replicate (3 - (lg_sl ([.ref (ad 0), .int p1, .int p2])).length) Slot.unset).toArray = ls at hl ⊢
  have hl : lv_has ls 3 [(0, .ref (ad 0)), (1, .int p1), (2, .int p2)] := hl
  have hq := hwp
  unfold X8_graph_wp at hq
  refine lv_iload_n hx hb dX8_graph_0 rfl (lv_at hl 1 rfl) ?_
  refine lv_iconst (v := (2 : Int32)) hx hb dX8_graph_1 (by decide) ?_
  refine lv_icmp_lt (tgt := 20) hx hb dX8_graph_2 (by decide) (fun hc => ?_) (fun hc => ?_)
  · have hq := hq.1 hc
    refine lv_bipush (v := (-2 : Int32)) hx hb dX8_graph_20 (by decide) ?_
    exact W.iret (v := (-2 : Int32)) hx hb hr (fun t ht hW => ⟨⟨(-2 : Int32), σ, rfl, hq, by rw [ht]; exact hP, hD⟩, hS.F ht⟩) hS.2.2 dX8_graph_22
  · have hq := hq.2 hc
    refine lv_iload_n hx hb dX8_graph_5 rfl (lv_at hl 1 rfl) ?_
    refine lv_bipush (v := (12 : Int32)) hx hb dX8_graph_6 (by decide) ?_
    refine lv_icmp_gt (tgt := 20) hx hb dX8_graph_8 (by decide) (fun hc => ?_) (fun hc => ?_)
    · have hq := hq.1 hc
      refine lv_bipush (v := (-2 : Int32)) hx hb dX8_graph_20 (by decide) ?_
      exact W.iret (v := (-2 : Int32)) hx hb hr (fun t ht hW => ⟨⟨(-2 : Int32), σ, rfl, hq, by rw [ht]; exact hP, hD⟩, hS.F ht⟩) hS.2.2 dX8_graph_22
    · have hq := hq.2 hc
      refine lv_iload_n hx hb dX8_graph_11 rfl (lv_at hl 2 rfl) ?_
      refine lv_if_lt (tgt := 20) hx hb dX8_graph_12 (by decide) (fun hc => ?_) (fun hc => ?_)
      · have hq := hq.1 hc
        refine lv_bipush (v := (-2 : Int32)) hx hb dX8_graph_20 (by decide) ?_
        exact W.iret (v := (-2 : Int32)) hx hb hr (fun t ht hW => ⟨⟨(-2 : Int32), σ, rfl, hq, by rw [ht]; exact hP, hD⟩, hS.F ht⟩) hS.2.2 dX8_graph_22
      · have hq := hq.2 hc
        refine lv_iload_n hx hb dX8_graph_15 rfl (lv_at hl 2 rfl) ?_
        refine lv_iconst (v := (2 : Int32)) hx hb dX8_graph_16 (by decide) ?_
        refine lv_icmp_le (tgt := 23) hx hb dX8_graph_17 (by decide) (fun hc => ?_) (fun hc => ?_)
        · have hq := hq.1 hc
          refine lv_aload_n hx hb dX8_graph_23 rfl (lv_at hl 0 rfl) ?_
          refine lv_iload_n hx hb dX8_graph_24 rfl (lv_at hl 1 rfl) ?_
          refine va_put (D := D) (ci := 8) (v := .int p1) (ty := .int) (C := RX8) (T := TX8) (N := 32) hx hb hts hiX8 tyX8 tyX8_ok nmX8 hown hK hP hD hS 0 wMg0 rfl 0 (by decide) (hts (.fieldLink RX8 7 "ArcGuesserModel" "n" "I") (List.mem_of_getElem? (i := 1) rfl)) (fun _ h9 => h9) rfl (by decide +kernel) rfl rfl (Nat.le_of_ble_eq_true rfl) dX8_graph_25 (fun H locs hP hD hS => ?_)
          have hP := wMfP0_0 hP
          have hD := wMfD0_0 hD
          refine lv_aload_n hx hb dX8_graph_28 rfl (lv_at hl 0 rfl) ?_
          refine lv_iload_n hx hb dX8_graph_29 rfl (lv_at hl 2 rfl) ?_
          refine va_put (D := D) (ci := 8) (v := .int p2) (ty := .int) (C := RX8) (T := TX8) (N := 32) hx hb hts hiX8 tyX8 tyX8_ok nmX8 hown hK hP hD hS 0 wMg0 rfl 1 (by decide) (hts (.fieldLink RX8 98 "ArcGuesserModel" "sort" "I") (List.mem_of_getElem? (i := 2) rfl)) (fun _ h9 => h9) rfl (by decide +kernel) rfl rfl (Nat.le_of_ble_eq_true rfl) dX8_graph_30 (fun H locs hP hD hS => ?_)
          have hP := wMfP0_1 hP
          have hD := wMfD0_1 hD
          refine lv_aload_n hx hb dX8_graph_33 rfl (lv_at hl 0 rfl) ?_
          refine w_callv (va_runV (As := []) (rest := []) ⟨hx, hb, hml, hown, hts⟩ (mtX8_fresh l D ad cA A (sI (sI σ 0 0 p1) 0 1 p2)  _ hq) (cwV 0 hts gX8_graph_X8_fresh rfl rfl rfl (by decide +kernel) ⟨Nat.le_of_ble_eq_true rfl, Nat.le_of_ble_eq_true rfl⟩) ⟨stW_blind nwM_ok, va_recv hK hP (ci := 8) (q0 := 0) rfl wMg0, stW_pass hA hS hN hK hP hD nwM_ok⟩ rfl rfl hl.1 rfl (lv_room (Nat.le_of_ble_eq_true rfl)) dX8_graph_34 ⟨Nat.le_of_ble_eq_true rfl, Nat.le_of_ble_eq_true rfl⟩) hS (fun σ1 H locs hq hP hD hS => ?_)
          refine lv_aload_n hx hb dX8_graph_37 rfl (lv_at hl 0 rfl) ?_
          refine w_calli (va_runV (As := []) (rest := []) ⟨hx, hb, hml, hown, hts⟩ (mtX8_pairs l D ad cA A σ1  _ hq) (cwV 0 hts gX8_graph_X8_pairs rfl rfl rfl (by decide +kernel) ⟨Nat.le_of_ble_eq_true rfl, Nat.le_of_ble_eq_true rfl⟩) ⟨stW_blind nwM_ok, va_recv hK hP (ci := 8) (q0 := 0) rfl wMg0, stW_pass hA hS hN hK hP hD nwM_ok⟩ rfl rfl hl.1 rfl (lv_room (Nat.le_of_ble_eq_true rfl)) dX8_graph_38 ⟨Nat.le_of_ble_eq_true rfl, Nat.le_of_ble_eq_true rfl⟩) hS (fun r2 σ2 H locs hq hP hD hS => ?_)
          exact W.iret (v := r2) hx hb hr (fun t ht hW => ⟨⟨r2, σ2, rfl, hq, by rw [ht]; exact hP, hD⟩, hS.F ht⟩) hS.2.2 dX8_graph_41
        · have hq := hq.2 hc
          refine lv_bipush (v := (-2 : Int32)) hx hb dX8_graph_20 (by decide) ?_
          exact W.iret (v := (-2 : Int32)) hx hb hr (fun t ht hW => ⟨⟨(-2 : Int32), σ, rfl, hq, by rw [ht]; exact hP, hD⟩, hS.F ht⟩) hS.2.2 dX8_graph_22
/-! ArcGuesserModel.group(II)I -/
def X8_group_wp (σ : Sto) (p1 : Int32) (p2 : Int32) (Post : Int32 → Sto → Prop) : Prop :=
  (X8_isNode_wp σ p1 (fun r1 σ1 => ((¬ r1 = 0 → ((p2 < 0 → (Post (-2 : Int32) σ1)) ∧ (¬ p2 < 0 → ((p2 ≤ (3 : Int32) → (X8_changed_wp σ1  (fun σ2 => (vp_in p1 12 ∧ (vp_in p1 12 ∧ (Post (σ2.1 6 (p1).toNatClampNeg) (sI σ2 6 (p1).toNatClampNeg p2))))))) ∧ (¬ p2 ≤ (3 : Int32) → (Post (-2 : Int32) σ1)))))) ∧ (r1 = 0 → (Post (-1 : Int32) σ1)))))
set_option maxHeartbeats 4000000 in
set_option maxRecDepth 100000 in
theorem mtX8_group (l : Launch) (D : va_G) (ad : Nat → Nat) (cA : Nat → ClassId) (A : Nat → Prop) (σ : Sto) (p1 : Int32) (p2 : Int32) (Post : Int32 → Sto → Prop) (hwp : X8_group_wp σ p1 p2 Post) : Met l yX8_group wsX8_group ({ frames := 1, cells := 0, slots := 0, locals := 21 }) (va_Pc [.ref (ad 0), .int p1, .int p2] (stW D (tyM cA) nwM (wM ad cA) A σ)) (va_Qi Post (enW D (wM ad cA) A) A) 0 0 A := by
  refine Met.ofW (cc := cX8_group) (maxL := 4) (ret := (some .int)) (by decide) rfl ?_
  intro p e s m args below meth c s₁ B hml hv
  obtain ⟨rfl, hA, hN, hP, hK, hD⟩ := hv
  have hx := B.exec
  have hb := B.bytes
  have hr := B.returns
  have hts := atoms_spec (ws := wsX8_group) B.pre
  have hown : s.vm.findClass RX8 = some m.cls := findClass_of_methodNamed B.named
  have hlocks := B.notSynchronized
  have hiX8 : ∀ w ∈ wsX80, w ∈ wsX8_group := by decide +kernel
  have hS : va_S A s.heap s.heap [] := va_S.rf
  have hl := lv_entry ([.ref (ad 0), .int p1, .int p2]) (n := 4) (Nat.le_of_ble_eq_true rfl)
  rw [lg_entry_eq]
  generalize (lg_sl ([.ref (ad 0), .int p1, .int p2]) ++ List.replicate (4 - (lg_sl ([.ref (ad 0), .int p1, .int p2])).length) Slot.unset).toArray = ls at hl ⊢
  have hl : lv_has ls 4 [(0, .ref (ad 0)), (1, .int p1), (2, .int p2)] := hl
  have hq := hwp
  unfold X8_group_wp at hq
  refine lv_aload_n hx hb dX8_group_0 rfl (lv_at hl 0 rfl) ?_
  refine lv_iload_n hx hb dX8_group_1 rfl (lv_at hl 1 rfl) ?_
  refine w_calli (va_runV (As := [.int p1]) (rest := []) ⟨hx, hb, hml, hown, hts⟩ (mtX8_isNode l D ad cA A σ p1 _ hq) (cwV 1 hts gX8_group_X8_isNode rfl rfl rfl (by decide +kernel) ⟨Nat.le_of_ble_eq_true rfl, Nat.le_of_ble_eq_true rfl⟩) ⟨stW_blind nwM_ok, va_recv hK hP (ci := 8) (q0 := 0) rfl wMg0, stW_pass hA hS hN hK hP hD nwM_ok⟩ rfl rfl hl.1 rfl (lv_room (Nat.le_of_ble_eq_true rfl)) dX8_group_2 ⟨Nat.le_of_ble_eq_true rfl, Nat.le_of_ble_eq_true rfl⟩) hS (fun r1 σ1 H locs hq hP hD hS => ?_)
  refine lv_if_ne (tgt := 10) hx hb dX8_group_5 (by decide) (fun hc => ?_) (fun hc => ?_)
  · have hq := hq.1 hc
    refine lv_iload_n hx hb dX8_group_10 rfl (lv_at hl 2 rfl) ?_
    refine lv_if_lt (tgt := 19) hx hb dX8_group_11 (by decide) (fun hc => ?_) (fun hc => ?_)
    · have hq := hq.1 hc
      refine lv_bipush (v := (-2 : Int32)) hx hb dX8_group_19 (by decide) ?_
      exact W.iret (v := (-2 : Int32)) hx hb hr (fun t ht hW => ⟨⟨(-2 : Int32), σ1, rfl, hq, by rw [ht]; exact hP, hD⟩, hS.F ht⟩) hS.2.2 dX8_group_21
    · have hq := hq.2 hc
      refine lv_iload_n hx hb dX8_group_14 rfl (lv_at hl 2 rfl) ?_
      refine lv_iconst (v := (3 : Int32)) hx hb dX8_group_15 (by decide) ?_
      refine lv_icmp_le (tgt := 22) hx hb dX8_group_16 (by decide) (fun hc => ?_) (fun hc => ?_)
      · have hq := hq.1 hc
        refine lv_aload_n hx hb dX8_group_22 rfl (lv_at hl 0 rfl) ?_
        refine w_callv (va_runV (As := []) (rest := []) ⟨hx, hb, hml, hown, hts⟩ (mtX8_changed l D ad cA A σ1  _ hq) (cwV 0 hts gX8_group_X8_changed rfl rfl rfl (by decide +kernel) ⟨Nat.le_of_ble_eq_true rfl, Nat.le_of_ble_eq_true rfl⟩) ⟨stW_blind nwM_ok, va_recv hK hP (ci := 8) (q0 := 0) rfl wMg0, stW_pass hA hS hN hK hP hD nwM_ok⟩ rfl rfl hl.1 rfl (lv_room (Nat.le_of_ble_eq_true rfl)) dX8_group_23 ⟨Nat.le_of_ble_eq_true rfl, Nat.le_of_ble_eq_true rfl⟩) hS (fun σ2 H locs hq hP hD hS => ?_)
        refine lv_aload_n hx hb dX8_group_26 rfl (lv_at hl 0 rfl) ?_
        refine va_get (D := D) (ci := 8) (v := .ref (ad 6)) (C := RX8) (T := TX8) (N := 32) hx hb hts hiX8 hown hK hP 0 wMg0 rfl 8 (by decide) (hts (.fieldLink RX8 30 "ArcGuesserModel" "groups" "[I") (List.mem_of_getElem? (i := 1) rfl)) (fun _ h9 => h9) rfl dX8_group_27 ?_
        refine lv_iload_n hx hb dX8_group_30 rfl (lv_at hl 1 rfl) ?_
        refine va_iald hx hb hK hP 6 0 wMg6 rfl hq.1 dX8_group_31 ?_
        have hq := hq.2
        refine lv_istore_n (lv' := [(3, .int (σ2.1 6 (p1).toNatClampNeg)), (0, .ref (ad 0)), (1, .int p1), (2, .int p2)]) hx hb dX8_group_32 rfl hl (by decide) rfl (fun ls hl => ?_)
        refine lv_aload_n hx hb dX8_group_33 rfl (lv_at hl 1 rfl) ?_
        refine va_get (D := D) (ci := 8) (v := .ref (ad 6)) (C := RX8) (T := TX8) (N := 32) hx hb hts hiX8 hown hK hP 0 wMg0 rfl 8 (by decide) (hts (.fieldLink RX8 30 "ArcGuesserModel" "groups" "[I") (List.mem_of_getElem? (i := 1) rfl)) (fun _ h9 => h9) rfl dX8_group_34 ?_
        refine lv_iload_n hx hb dX8_group_37 rfl (lv_at hl 2 rfl) ?_
        refine lv_iload_n hx hb dX8_group_38 rfl (lv_at hl 3 rfl) ?_
        refine va_iast hx hb hK hP hD hS 6 0 wMg6 rfl hq.1 dX8_group_39 (fun H locs hP hD hS => ?_)
        have hP := wMsP6 hP
        have hD := wMsD6 hD
        have hq := hq.2
        refine lv_iload_n hx hb dX8_group_40 rfl (lv_at hl 0 rfl) ?_
        exact W.iret (v := (σ2.1 6 (p1).toNatClampNeg)) hx hb hr (fun t ht hW => ⟨⟨(σ2.1 6 (p1).toNatClampNeg), (sI σ2 6 (p1).toNatClampNeg p2), rfl, hq, by rw [ht]; exact hP, hD⟩, hS.F ht⟩) hS.2.2 dX8_group_41
      · have hq := hq.2 hc
        refine lv_bipush (v := (-2 : Int32)) hx hb dX8_group_19 (by decide) ?_
        exact W.iret (v := (-2 : Int32)) hx hb hr (fun t ht hW => ⟨⟨(-2 : Int32), σ1, rfl, hq, by rw [ht]; exact hP, hD⟩, hS.F ht⟩) hS.2.2 dX8_group_21
  · have hq := hq.2 hc
    refine lv_iconst (v := (-1 : Int32)) hx hb dX8_group_8 (by decide) ?_
    exact W.iret (v := (-1 : Int32)) hx hb hr (fun t ht hW => ⟨⟨(-1 : Int32), σ1, rfl, hq, by rw [ht]; exact hP, hD⟩, hS.F ht⟩) hS.2.2 dX8_group_9
/-! ArcGuesserModel.hide(IIZ)I -/
def X8_hide_wp (σ : Sto) (p1 : Int32) (p2 : Int32) (p3 : Int32) (Post : Int32 → Sto → Prop) : Prop :=
  (X8_isTold_wp σ p1 p2 (fun r1 σ1 => ((r1 = 0 → (Post (-1 : Int32) σ1)) ∧ (¬ r1 = 0 → (vp_in (((12 : Int32) * p1) + p2) 144 ∧ ((¬ (σ1.1 1 ((((12 : Int32) * p1) + p2)).toNatClampNeg) = 0 → (vp_in (((12 : Int32) * p1) + p2) 144 ∧ (X8_changed_wp σ1  (fun σ2 => (vp_in ((σ1.1 1 ((((12 : Int32) * p1) + p2)).toNatClampNeg) - (1 : Int32)) 132 ∧ (((σ2.1 5 (((σ1.1 1 ((((12 : Int32) * p1) + p2)).toNatClampNeg) - (1 : Int32))).toNatClampNeg) = 0 → (vp_in ((σ1.1 1 ((((12 : Int32) * p1) + p2)).toNatClampNeg) - (1 : Int32)) 132 ∧ (Post (0 : Int32) (sI σ2 5 (((σ1.1 1 ((((12 : Int32) * p1) + p2)).toNatClampNeg) - (1 : Int32))).toNatClampNeg (vp_nar .boolean p3))))) ∧ (¬ (σ2.1 5 (((σ1.1 1 ((((12 : Int32) * p1) + p2)).toNatClampNeg) - (1 : Int32))).toNatClampNeg) = 0 → (vp_in ((σ1.1 1 ((((12 : Int32) * p1) + p2)).toNatClampNeg) - (1 : Int32)) 132 ∧ (Post (1 : Int32) (sI σ2 5 (((σ1.1 1 ((((12 : Int32) * p1) + p2)).toNatClampNeg) - (1 : Int32))).toNatClampNeg (vp_nar .boolean p3))))))))))) ∧ ((σ1.1 1 ((((12 : Int32) * p1) + p2)).toNatClampNeg) = 0 → (Post (-1 : Int32) σ1))))))))
set_option maxHeartbeats 4000000 in
set_option maxRecDepth 100000 in
theorem mtX8_hide (l : Launch) (D : va_G) (ad : Nat → Nat) (cA : Nat → ClassId) (A : Nat → Prop) (σ : Sto) (p1 : Int32) (p2 : Int32) (p3 : Int32) (Post : Int32 → Sto → Prop) (hwp : X8_hide_wp σ p1 p2 p3 Post) : Met l yX8_hide wsX8_hide ({ frames := 2, cells := 0, slots := 0, locals := 44 }) (va_Pc [.ref (ad 0), .int p1, .int p2, .int p3] (stW D (tyM cA) nwM (wM ad cA) A σ)) (va_Qi Post (enW D (wM ad cA) A) A) 0 0 A := by
  refine Met.ofW (cc := cX8_hide) (maxL := 6) (ret := (some .int)) (by decide) rfl ?_
  intro p e s m args below meth c s₁ B hml hv
  obtain ⟨rfl, hA, hN, hP, hK, hD⟩ := hv
  have hx := B.exec
  have hb := B.bytes
  have hr := B.returns
  have hts := atoms_spec (ws := wsX8_hide) B.pre
  have hown : s.vm.findClass RX8 = some m.cls := findClass_of_methodNamed B.named
  have hlocks := B.notSynchronized
  have hiX8 : ∀ w ∈ wsX80, w ∈ wsX8_hide := by decide +kernel
  have hS : va_S A s.heap s.heap [] := va_S.rf
  have hl := lv_entry ([.ref (ad 0), .int p1, .int p2, .int p3]) (n := 6) (Nat.le_of_ble_eq_true rfl)
  rw [lg_entry_eq]
  generalize (lg_sl ([.ref (ad 0), .int p1, .int p2, .int p3]) ++ List.replicate (6 - (lg_sl ([.ref (ad 0), .int p1, .int p2, .int p3])).length) Slot.unset).toArray = ls at hl ⊢
  have hl : lv_has ls 6 [(0, .ref (ad 0)), (1, .int p1), (2, .int p2), (3, .int p3)] := hl
  have hq := hwp
  unfold X8_hide_wp at hq
  refine lv_aload_n hx hb dX8_hide_0 rfl (lv_at hl 0 rfl) ?_
  refine lv_iload_n hx hb dX8_hide_1 rfl (lv_at hl 1 rfl) ?_
  refine lv_iload_n hx hb dX8_hide_2 rfl (lv_at hl 2 rfl) ?_
  refine w_calli (va_runV (As := [.int p1, .int p2]) (rest := []) ⟨hx, hb, hml, hown, hts⟩ (mtX8_isTold l D ad cA A σ p1 p2 _ hq) (cwV 2 hts gX8_hide_X8_isTold rfl rfl rfl (by decide +kernel) ⟨Nat.le_of_ble_eq_true rfl, Nat.le_of_ble_eq_true rfl⟩) ⟨stW_blind nwM_ok, va_recv hK hP (ci := 8) (q0 := 0) rfl wMg0, stW_pass hA hS hN hK hP hD nwM_ok⟩ rfl rfl hl.1 rfl (lv_room (Nat.le_of_ble_eq_true rfl)) dX8_hide_3 ⟨Nat.le_of_ble_eq_true rfl, Nat.le_of_ble_eq_true rfl⟩) hS (fun r1 σ1 H locs hq hP hD hS => ?_)
  refine lv_if_eq (tgt := 23) hx hb dX8_hide_6 (by decide) (fun hc => ?_) (fun hc => ?_)
  · have hq := hq.1 hc
    refine lv_iconst (v := (-1 : Int32)) hx hb dX8_hide_23 (by decide) ?_
    exact W.iret (v := (-1 : Int32)) hx hb hr (fun t ht hW => ⟨⟨(-1 : Int32), σ1, rfl, hq, by rw [ht]; exact hP, hD⟩, hS.F ht⟩) hS.2.2 dX8_hide_24
  · have hq := hq.2 hc
    refine lv_aload_n hx hb dX8_hide_9 rfl (lv_at hl 0 rfl) ?_
    refine va_get (D := D) (ci := 8) (v := .ref (ad 1)) (C := RX8) (T := TX8) (N := 32) hx hb hts hiX8 hown hK hP 0 wMg0 rfl 2 (by decide) (hts (.fieldLink RX8 13 "ArcGuesserModel" "arcAt" "[I") (List.mem_of_getElem? (i := 1) rfl)) (fun _ h9 => h9) rfl dX8_hide_10 ?_
    refine lv_bipush (v := (12 : Int32)) hx hb dX8_hide_13 (by decide) ?_
    refine lv_iload_n hx hb dX8_hide_15 rfl (lv_at hl 1 rfl) ?_
    refine lv_imul hx hb dX8_hide_16 ?_
    refine lv_iload_n hx hb dX8_hide_17 rfl (lv_at hl 2 rfl) ?_
    refine lv_iadd hx hb dX8_hide_18 ?_
    refine va_iald hx hb hK hP 1 0 wMg1 rfl hq.1 dX8_hide_19 ?_
    have hq := hq.2
    refine lv_if_ne (tgt := 25) hx hb dX8_hide_20 (by decide) (fun hc => ?_) (fun hc => ?_)
    · have hq := hq.1 hc
      refine lv_aload_n hx hb dX8_hide_25 rfl (lv_at hl 0 rfl) ?_
      refine va_get (D := D) (ci := 8) (v := .ref (ad 1)) (C := RX8) (T := TX8) (N := 32) hx hb hts hiX8 hown hK hP 0 wMg0 rfl 2 (by decide) (hts (.fieldLink RX8 13 "ArcGuesserModel" "arcAt" "[I") (List.mem_of_getElem? (i := 1) rfl)) (fun _ h9 => h9) rfl dX8_hide_26 ?_
      refine lv_bipush (v := (12 : Int32)) hx hb dX8_hide_29 (by decide) ?_
      refine lv_iload_n hx hb dX8_hide_31 rfl (lv_at hl 1 rfl) ?_
      refine lv_imul hx hb dX8_hide_32 ?_
      refine lv_iload_n hx hb dX8_hide_33 rfl (lv_at hl 2 rfl) ?_
      refine lv_iadd hx hb dX8_hide_34 ?_
      refine va_iald hx hb hK hP 1 0 wMg1 rfl hq.1 dX8_hide_35 ?_
      have hq := hq.2
      refine lv_iconst (v := (1 : Int32)) hx hb dX8_hide_36 (by decide) ?_
      refine lv_isub hx hb dX8_hide_37 ?_
      refine lv_istore (lv' := [(4, .int ((σ1.1 1 ((((12 : Int32) * p1) + p2)).toNatClampNeg) - (1 : Int32))), (0, .ref (ad 0)), (1, .int p1), (2, .int p2), (3, .int p3)]) hx hb dX8_hide_38 hl (by decide) rfl (fun ls hl => ?_)
      refine lv_aload_n hx hb dX8_hide_40 rfl (lv_at hl 1 rfl) ?_
      refine w_callv (va_runV (As := []) (rest := []) ⟨hx, hb, hml, hown, hts⟩ (mtX8_changed l D ad cA A σ1  _ hq) (cwV 0 hts gX8_hide_X8_changed rfl rfl rfl (by decide +kernel) ⟨Nat.le_of_ble_eq_true rfl, Nat.le_of_ble_eq_true rfl⟩) ⟨stW_blind nwM_ok, va_recv hK hP (ci := 8) (q0 := 0) rfl wMg0, stW_pass hA hS hN hK hP hD nwM_ok⟩ rfl rfl hl.1 rfl (lv_room (Nat.le_of_ble_eq_true rfl)) dX8_hide_41 ⟨Nat.le_of_ble_eq_true rfl, Nat.le_of_ble_eq_true rfl⟩) hS (fun σ2 H locs hq hP hD hS => ?_)
      refine lv_aload_n hx hb dX8_hide_44 rfl (lv_at hl 1 rfl) ?_
      refine va_get (D := D) (ci := 8) (v := .ref (ad 5)) (C := RX8) (T := TX8) (N := 32) hx hb hts hiX8 hown hK hP 0 wMg0 rfl 6 (by decide) (hts (.fieldLink RX8 26 "ArcGuesserModel" "hidden" "[Z") (List.mem_of_getElem? (i := 2) rfl)) (fun _ h9 => h9) rfl dX8_hide_45 ?_
      refine lv_iload hx hb dX8_hide_48 (lv_at hl 0 rfl) ?_
      refine va_zald hx hb hK hP 5 2 wMg5 rfl hq.1 dX8_hide_50 ?_
      have hq := hq.2
      refine lv_if_eq (tgt := 58) hx hb dX8_hide_51 (by decide) (fun hc => ?_) (fun hc => ?_)
      · have hq := hq.1 hc
        refine lv_iconst (v := (0 : Int32)) hx hb dX8_hide_58 (by decide) ?_
        refine lv_istore (lv' := [(5, .int (0 : Int32)), (4, .int ((σ1.1 1 ((((12 : Int32) * p1) + p2)).toNatClampNeg) - (1 : Int32))), (0, .ref (ad 0)), (1, .int p1), (2, .int p2), (3, .int p3)]) hx hb dX8_hide_59 hl (by decide) rfl (fun ls hl => ?_)
        refine lv_aload_n hx hb dX8_hide_61 rfl (lv_at hl 2 rfl) ?_
        refine va_get (D := D) (ci := 8) (v := .ref (ad 5)) (C := RX8) (T := TX8) (N := 32) hx hb hts hiX8 hown hK hP 0 wMg0 rfl 6 (by decide) (hts (.fieldLink RX8 26 "ArcGuesserModel" "hidden" "[Z") (List.mem_of_getElem? (i := 2) rfl)) (fun _ h9 => h9) rfl dX8_hide_62 ?_
        refine lv_iload hx hb dX8_hide_65 (lv_at hl 1 rfl) ?_
        refine lv_iload_n hx hb dX8_hide_67 rfl (lv_at hl 5 rfl) ?_
        refine va_zast hx hb hK hP hD hS 5 2 wMg5 rfl hq.1 dX8_hide_68 (fun H locs hP hD hS => ?_)
        have hP := wMsP5 hP
        have hD := wMsD5 hD
        have hq := hq.2
        refine lv_iload hx hb dX8_hide_69 (lv_at hl 0 rfl) ?_
        exact W.iret (v := (0 : Int32)) hx hb hr (fun t ht hW => ⟨⟨(0 : Int32), (sI σ2 5 (((σ1.1 1 ((((12 : Int32) * p1) + p2)).toNatClampNeg) - (1 : Int32))).toNatClampNeg (vp_nar .boolean p3)), rfl, hq, by rw [ht]; exact hP, hD⟩, hS.F ht⟩) hS.2.2 dX8_hide_71
      · have hq := hq.2 hc
        refine lv_iconst (v := (1 : Int32)) hx hb dX8_hide_54 (by decide) ?_
        refine lv_goto (tgt := 59) hx hb dX8_hide_55 (by decide) ?_
        refine lv_istore (lv' := [(5, .int (1 : Int32)), (4, .int ((σ1.1 1 ((((12 : Int32) * p1) + p2)).toNatClampNeg) - (1 : Int32))), (0, .ref (ad 0)), (1, .int p1), (2, .int p2), (3, .int p3)]) hx hb dX8_hide_59 hl (by decide) rfl (fun ls hl => ?_)
        refine lv_aload_n hx hb dX8_hide_61 rfl (lv_at hl 2 rfl) ?_
        refine va_get (D := D) (ci := 8) (v := .ref (ad 5)) (C := RX8) (T := TX8) (N := 32) hx hb hts hiX8 hown hK hP 0 wMg0 rfl 6 (by decide) (hts (.fieldLink RX8 26 "ArcGuesserModel" "hidden" "[Z") (List.mem_of_getElem? (i := 2) rfl)) (fun _ h9 => h9) rfl dX8_hide_62 ?_
        refine lv_iload hx hb dX8_hide_65 (lv_at hl 1 rfl) ?_
        refine lv_iload_n hx hb dX8_hide_67 rfl (lv_at hl 5 rfl) ?_
        refine va_zast hx hb hK hP hD hS 5 2 wMg5 rfl hq.1 dX8_hide_68 (fun H locs hP hD hS => ?_)
        have hP := wMsP5 hP
        have hD := wMsD5 hD
        have hq := hq.2
        refine lv_iload hx hb dX8_hide_69 (lv_at hl 0 rfl) ?_
        exact W.iret (v := (1 : Int32)) hx hb hr (fun t ht hW => ⟨⟨(1 : Int32), (sI σ2 5 (((σ1.1 1 ((((12 : Int32) * p1) + p2)).toNatClampNeg) - (1 : Int32))).toNatClampNeg (vp_nar .boolean p3)), rfl, hq, by rw [ht]; exact hP, hD⟩, hS.F ht⟩) hS.2.2 dX8_hide_71
    · have hq := hq.2 hc
      refine lv_iconst (v := (-1 : Int32)) hx hb dX8_hide_23 (by decide) ?_
      exact W.iret (v := (-1 : Int32)) hx hb hr (fun t ht hW => ⟨⟨(-1 : Int32), σ1, rfl, hq, by rw [ht]; exact hP, hD⟩, hS.F ht⟩) hS.2.2 dX8_hide_24
/-! ArcGuesserModel.isMeasure(I)Z -/
def X8_isMeasure_wp (σ : Sto) (p0 : Int32) (Post : Int32 → Sto → Prop) : Prop :=
  ((p0 < 0 → (Post (0 : Int32) σ)) ∧ (¬ p0 < 0 → (((10 : Int32) < p0 → (Post (0 : Int32) σ)) ∧ (¬ (10 : Int32) < p0 → (Post (1 : Int32) σ)))))
set_option maxHeartbeats 4000000 in
set_option maxRecDepth 100000 in
theorem mtX8_isMeasure (l : Launch) (D : va_G) (ad : Nat → Nat) (cA : Nat → ClassId) (A : Nat → Prop) (σ : Sto) (p0 : Int32) (Post : Int32 → Sto → Prop) (hwp : X8_isMeasure_wp σ p0 Post) : Met l yX8_isMeasure wsX8_isMeasure ({ frames := 0, cells := 0, slots := 0, locals := 0 }) (va_Pc [.int p0] (stW D (tyM cA) nwM (wM ad cA) A σ)) (va_Qi Post (enW D (wM ad cA) A) A) 0 0 A := by
  refine Met.ofW (cc := cX8_isMeasure) (maxL := 1) (ret := (some .boolean)) (by decide) rfl ?_
  intro p e s m args below meth c s₁ B hml hv
  obtain ⟨rfl, hA, hN, hP, hK, hD⟩ := hv
  have hx := B.exec
  have hb := B.bytes
  have hr := B.returns
  have hts := atoms_spec (ws := wsX8_isMeasure) B.pre
  have hown : s.vm.findClass RX8 = some m.cls := findClass_of_methodNamed B.named
  have hlocks := B.notSynchronized
  have hS : va_S A s.heap s.heap [] := va_S.rf
  have hl := lv_entry ([.int p0]) (n := 1) (Nat.le_of_ble_eq_true rfl)
  rw [lg_entry_eq]
  generalize (lg_sl ([.int p0]) ++ List.replicate (1 - (lg_sl ([.int p0])).length) Slot.unset).toArray = ls at hl ⊢
  have hl : lv_has ls 1 [(0, .int p0)] := hl
  have hq := hwp
  unfold X8_isMeasure_wp at hq
  refine lv_iload_n hx hb dX8_isMeasure_0 rfl (lv_at hl 0 rfl) ?_
  refine lv_if_lt (tgt := 14) hx hb dX8_isMeasure_1 (by decide) (fun hc => ?_) (fun hc => ?_)
  · have hq := hq.1 hc
    refine lv_iconst (v := (0 : Int32)) hx hb dX8_isMeasure_14 (by decide) ?_
    exact W.zret (v := (0 : Int32)) hx hb hr rfl (fun t ht hW => ⟨⟨(0 : Int32), σ, rfl, hq, by rw [ht]; exact hP, hD⟩, hS.F ht⟩) hS.2.2 dX8_isMeasure_15
  · have hq := hq.2 hc
    refine lv_iload_n hx hb dX8_isMeasure_4 rfl (lv_at hl 0 rfl) ?_
    refine lv_bipush (v := (10 : Int32)) hx hb dX8_isMeasure_5 (by decide) ?_
    refine lv_icmp_gt (tgt := 14) hx hb dX8_isMeasure_7 (by decide) (fun hc => ?_) (fun hc => ?_)
    · have hq := hq.1 hc
      refine lv_iconst (v := (0 : Int32)) hx hb dX8_isMeasure_14 (by decide) ?_
      exact W.zret (v := (0 : Int32)) hx hb hr rfl (fun t ht hW => ⟨⟨(0 : Int32), σ, rfl, hq, by rw [ht]; exact hP, hD⟩, hS.F ht⟩) hS.2.2 dX8_isMeasure_15
    · have hq := hq.2 hc
      refine lv_iconst (v := (1 : Int32)) hx hb dX8_isMeasure_10 (by decide) ?_
      refine lv_goto (tgt := 15) hx hb dX8_isMeasure_11 (by decide) ?_
      exact W.zret (v := (1 : Int32)) hx hb hr rfl (fun t ht hW => ⟨⟨(1 : Int32), σ, rfl, hq, by rw [ht]; exact hP, hD⟩, hS.F ht⟩) hS.2.2 dX8_isMeasure_15
/-! ArcGuesserModel.isTurned(II)Z -/
def X8_isTurned_wp (σ : Sto) (p1 : Int32) (p2 : Int32) (Post : Int32 → Sto → Prop) : Prop :=
  (X8_isPair_wp σ p1 p2 (fun r1 σ1 => ((¬ r1 = 0 → (Post (0 : Int32) σ1)) ∧ (r1 = 0 → (Post (1 : Int32) σ1)))))
set_option maxHeartbeats 4000000 in
set_option maxRecDepth 100000 in
theorem mtX8_isTurned (l : Launch) (D : va_G) (ad : Nat → Nat) (cA : Nat → ClassId) (A : Nat → Prop) (σ : Sto) (p1 : Int32) (p2 : Int32) (Post : Int32 → Sto → Prop) (hwp : X8_isTurned_wp σ p1 p2 Post) : Met l yX8_isTurned wsX8_isTurned ({ frames := 1, cells := 0, slots := 0, locals := 22 }) (va_Pc [.ref (ad 0), .int p1, .int p2] (stW D (tyM cA) nwM (wM ad cA) A σ)) (va_Qi Post (enW D (wM ad cA) A) A) 0 0 A := by
  refine Met.ofW (cc := cX8_isTurned) (maxL := 3) (ret := (some .boolean)) (by decide) rfl ?_
  intro p e s m args below meth c s₁ B hml hv
  obtain ⟨rfl, hA, hN, hP, hK, hD⟩ := hv
  have hx := B.exec
  have hb := B.bytes
  have hr := B.returns
  have hts := atoms_spec (ws := wsX8_isTurned) B.pre
  have hown : s.vm.findClass RX8 = some m.cls := findClass_of_methodNamed B.named
  have hlocks := B.notSynchronized
  have hS : va_S A s.heap s.heap [] := va_S.rf
  have hl := lv_entry ([.ref (ad 0), .int p1, .int p2]) (n := 3) (Nat.le_of_ble_eq_true rfl)
  rw [lg_entry_eq]
  generalize (lg_sl ([.ref (ad 0), .int p1, .int p2]) ++ List.replicate (3 - (lg_sl ([.ref (ad 0), .int p1, .int p2])).length) Slot.unset).toArray = ls at hl ⊢
  have hl : lv_has ls 3 [(0, .ref (ad 0)), (1, .int p1), (2, .int p2)] := hl
  have hq := hwp
  unfold X8_isTurned_wp at hq
  refine lv_aload_n hx hb dX8_isTurned_0 rfl (lv_at hl 0 rfl) ?_
  refine lv_iload_n hx hb dX8_isTurned_1 rfl (lv_at hl 1 rfl) ?_
  refine lv_iload_n hx hb dX8_isTurned_2 rfl (lv_at hl 2 rfl) ?_
  refine w_calli (va_runV (As := [.int p1, .int p2]) (rest := []) ⟨hx, hb, hml, hown, hts⟩ (mtX8_isPair l D ad cA A σ p1 p2 _ hq) (cwV 2 hts gX8_isTurned_X8_isPair rfl rfl rfl (by decide +kernel) ⟨Nat.le_of_ble_eq_true rfl, Nat.le_of_ble_eq_true rfl⟩) ⟨stW_blind nwM_ok, va_recv hK hP (ci := 8) (q0 := 0) rfl wMg0, stW_pass hA hS hN hK hP hD nwM_ok⟩ rfl rfl hl.1 rfl (lv_room (Nat.le_of_ble_eq_true rfl)) dX8_isTurned_3 ⟨Nat.le_of_ble_eq_true rfl, Nat.le_of_ble_eq_true rfl⟩) hS (fun r1 σ1 H locs hq hP hD hS => ?_)
  refine lv_if_ne (tgt := 13) hx hb dX8_isTurned_6 (by decide) (fun hc => ?_) (fun hc => ?_)
  · have hq := hq.1 hc
    refine lv_iconst (v := (0 : Int32)) hx hb dX8_isTurned_13 (by decide) ?_
    exact W.zret (v := (0 : Int32)) hx hb hr rfl (fun t ht hW => ⟨⟨(0 : Int32), σ1, rfl, hq, by rw [ht]; exact hP, hD⟩, hS.F ht⟩) hS.2.2 dX8_isTurned_14
  · have hq := hq.2 hc
    refine lv_iconst (v := (1 : Int32)) hx hb dX8_isTurned_9 (by decide) ?_
    refine lv_goto (tgt := 14) hx hb dX8_isTurned_10 (by decide) ?_
    exact W.zret (v := (1 : Int32)) hx hb hr rfl (fun t ht hW => ⟨⟨(1 : Int32), σ1, rfl, hq, by rw [ht]; exact hP, hD⟩, hS.F ht⟩) hS.2.2 dX8_isTurned_14
/-! ArcGuesserModel.parted()Z -/
def X8_parted_b17  (K17 : Sto → Int32 → Prop) (Post : Int32 → Sto → Prop) (σ : Sto) (v1 : Int32) : Prop :=
  (((144 : Int32) ≤ v1 → (((σ.1 0 28) ≤ 0 → (Post (0 : Int32) σ)) ∧ (¬ (σ.1 0 28) ≤ 0 → (((σ.1 0 29) ≤ 0 → (Post (0 : Int32) σ)) ∧ (¬ (σ.1 0 29) ≤ 0 → (Post (1 : Int32) σ)))))) ∧ (¬ (144 : Int32) ≤ v1 → (X8_isNode_wp σ (v1 / (12 : Int32)) (fun r1 σ1 => ((r1 = 0 → (K17 σ1 (v1 + (1 : Int32)))) ∧ (¬ r1 = 0 → (X8_isNode_wp σ1 (v1 - v1 / (12 : Int32) * (12 : Int32)) (fun r2 σ2 => ((r2 = 0 → (K17 σ2 (v1 + (1 : Int32)))) ∧ (¬ r2 = 0 → (X8_isPair_wp σ2 (v1 / (12 : Int32)) (v1 - v1 / (12 : Int32) * (12 : Int32)) (fun r3 σ3 => ((r3 = 0 → (K17 σ3 (v1 + (1 : Int32)))) ∧ (¬ r3 = 0 → (X8_isCandidate_wp σ3 (v1 / (12 : Int32)) (v1 - v1 / (12 : Int32) * (12 : Int32)) (fun r4 σ4 => ((r4 = 0 → (K17 σ4 (v1 + (1 : Int32)))) ∧ (¬ r4 = 0 → (X8_isFound_wp σ4 (v1 / (12 : Int32)) (v1 - v1 / (12 : Int32) * (12 : Int32)) (fun r5 σ5 => ((r5 = 0 → (vp_in (σ5.1 0 29) 132 ∧ (K17 (sI (sI σ5 17 ((σ5.1 0 29)).toNatClampNeg v1) 0 29 ((σ5.1 0 29) + (1 : Int32))) (v1 + (1 : Int32))))) ∧ (¬ r5 = 0 → (vp_in (σ5.1 0 28) 132 ∧ (K17 (sI (sI σ5 16 ((σ5.1 0 28)).toNatClampNeg v1) 0 28 ((σ5.1 0 28) + (1 : Int32))) (v1 + (1 : Int32))))))))))))))))))))))))))
def X8_parted_wp (σ : Sto)  (Post : Int32 → Sto → Prop) : Prop := ∀ (K17 : Sto → Int32 → Prop), (∀ (σ : Sto) (v1 : Int32), X8_parted_b17  K17 Post σ v1 → K17 σ v1) → 
  (X8_rank_wp (sI (sI σ 0 28 (0 : Int32)) 0 29 (0 : Int32))  (fun r1 σ1 => (K17 σ1 (0 : Int32))))
set_option maxHeartbeats 4000000 in
set_option maxRecDepth 100000 in
theorem mtX8_parted (l : Launch) (D : va_G) (ad : Nat → Nat) (cA : Nat → ClassId) (A : Nat → Prop) (σ : Sto)  (Post : Int32 → Sto → Prop) (hwp : X8_parted_wp σ  Post) : Met l yX8_parted wsX8_parted ({ frames := 8, cells := 0, slots := 0, locals := 216 }) (va_Pc [.ref (ad 0)] (stW D (tyM cA) nwM (wM ad cA) A σ)) (va_Qi Post (enW D (wM ad cA) A) A) 0 0 A := by
  refine Met.ofW (cc := cX8_parted) (maxL := 4) (ret := (some .boolean)) (by decide) rfl ?_
  intro p e s m args below meth c s₁ B hml hv
  obtain ⟨rfl, hA, hN, hP, hK, hD⟩ := hv
  have hx := B.exec
  have hb := B.bytes
  have hr := B.returns
  have hts := atoms_spec (ws := wsX8_parted) B.pre
  have hown : s.vm.findClass RX8 = some m.cls := findClass_of_methodNamed B.named
  have hlocks := B.notSynchronized
  have hiX8 : ∀ w ∈ wsX80, w ∈ wsX8_parted := by decide +kernel
  have hS : va_S A s.heap s.heap [] := va_S.rf
  have hl := lv_entry ([.ref (ad 0)]) (n := 4) (Nat.le_of_ble_eq_true rfl)
  rw [lg_entry_eq]
  generalize (lg_sl ([.ref (ad 0)]) ++ List.replicate (4 - (lg_sl ([.ref (ad 0)])).length) Slot.unset).toArray = ls at hl ⊢
  have hl : lv_has ls 4 [(0, .ref (ad 0))] := hl
  obtain ⟨K17, hK17⟩ : ∃ K : Sto → Int32 → Prop, K = fun (σ : Sto) (v1 : Int32) => ∀ (H : Heap) (locs : List Loc) (ls : Array Slot), va_P D vwCl ((wM ad cA) σ) H → va_D A ((wM ad cA) σ) → va_S A s.heap H locs → lv_has ls 4 [(0, .ref (ad 0)), (1, .int v1)] → W p l e (headSpec wsX8_parted ({ frames := 8, cells := 0, slots := 0, locals := 216 })).room s m ([.ref (ad 0)] : List Value).toArray below meth c H locs 0 0 (MQ below (va_Qi Post (enW D (wM ad cA) A) A) ([.ref (ad 0)] : List Value).toArray s 0 0 A) (F0 m 17 ls []) := ⟨_, rfl⟩
  have hk17 : ∀ (σ : Sto) (v1 : Int32), X8_parted_b17  K17 Post σ v1 → K17 σ v1 := by
    intro σ v1 hq
    rw [hK17]
    intro H locs ls hP hD hS hl
    unfold X8_parted_b17 at hq
    refine lv_iload_n hx hb dX8_parted_17 rfl (lv_at hl 1 rfl) ?_
    refine lv_sipush (v := (144 : Int32)) hx hb dX8_parted_18 (by decide) ?_
    refine lv_icmp_ge (tgt := 126) hx hb dX8_parted_21 (by decide) (fun hc => ?_) (fun hc => ?_)
    · have hq := hq.1 hc
      refine lv_aload_n hx hb dX8_parted_126 rfl (lv_at hl 0 rfl) ?_
      refine va_get (D := D) (ci := 8) (v := .int (σ.1 0 28)) (C := RX8) (T := TX8) (N := 32) hx hb hts hiX8 hown hK hP 0 wMg0 rfl 28 (by decide) (hts (.fieldLink RX8 205 "ArcGuesserModel" "foundMany" "I") (List.mem_of_getElem? (i := 1) rfl)) (fun _ h9 => h9) rfl dX8_parted_127 ?_
      refine lv_if_le (tgt := 144) hx hb dX8_parted_130 (by decide) (fun hc => ?_) (fun hc => ?_)
      · have hq := hq.1 hc
        refine lv_iconst (v := (0 : Int32)) hx hb dX8_parted_144 (by decide) ?_
        exact W.zret (v := (0 : Int32)) hx hb hr rfl (fun t ht hW => ⟨⟨(0 : Int32), σ, rfl, hq, by rw [ht]; exact hP, hD⟩, hS.F ht⟩) hS.2.2 dX8_parted_145
      · have hq := hq.2 hc
        refine lv_aload_n hx hb dX8_parted_133 rfl (lv_at hl 0 rfl) ?_
        refine va_get (D := D) (ci := 8) (v := .int (σ.1 0 29)) (C := RX8) (T := TX8) (N := 32) hx hb hts hiX8 hown hK hP 0 wMg0 rfl 29 (by decide) (hts (.fieldLink RX8 208 "ArcGuesserModel" "emptyMany" "I") (List.mem_of_getElem? (i := 2) rfl)) (fun _ h9 => h9) rfl dX8_parted_134 ?_
        refine lv_if_le (tgt := 144) hx hb dX8_parted_137 (by decide) (fun hc => ?_) (fun hc => ?_)
        · have hq := hq.1 hc
          refine lv_iconst (v := (0 : Int32)) hx hb dX8_parted_144 (by decide) ?_
          exact W.zret (v := (0 : Int32)) hx hb hr rfl (fun t ht hW => ⟨⟨(0 : Int32), σ, rfl, hq, by rw [ht]; exact hP, hD⟩, hS.F ht⟩) hS.2.2 dX8_parted_145
        · have hq := hq.2 hc
          refine lv_iconst (v := (1 : Int32)) hx hb dX8_parted_140 (by decide) ?_
          refine lv_goto (tgt := 145) hx hb dX8_parted_141 (by decide) ?_
          exact W.zret (v := (1 : Int32)) hx hb hr rfl (fun t ht hW => ⟨⟨(1 : Int32), σ, rfl, hq, by rw [ht]; exact hP, hD⟩, hS.F ht⟩) hS.2.2 dX8_parted_145
    · have hq := hq.2 hc
      refine lv_iload_n hx hb dX8_parted_24 rfl (lv_at hl 1 rfl) ?_
      refine lv_bipush (v := (12 : Int32)) hx hb dX8_parted_25 (by decide) ?_
      refine lv_idiv hx hb dX8_parted_27 (by decide) ?_
      refine lv_istore_n (lv' := [(2, .int (v1 / (12 : Int32))), (0, .ref (ad 0)), (1, .int v1)]) hx hb dX8_parted_28 rfl hl (by decide) rfl (fun ls hl => ?_)
      refine lv_iload_n hx hb dX8_parted_29 rfl (lv_at hl 2 rfl) ?_
      refine lv_bipush (v := (12 : Int32)) hx hb dX8_parted_30 (by decide) ?_
      refine lv_irem hx hb dX8_parted_32 (by decide) ?_
      refine lv_istore_n (lv' := [(3, .int (v1 - v1 / (12 : Int32) * (12 : Int32))), (2, .int (v1 / (12 : Int32))), (0, .ref (ad 0)), (1, .int v1)]) hx hb dX8_parted_33 rfl hl (by decide) rfl (fun ls hl => ?_)
      refine lv_aload_n hx hb dX8_parted_34 rfl (lv_at hl 2 rfl) ?_
      refine lv_iload_n hx hb dX8_parted_35 rfl (lv_at hl 1 rfl) ?_
      refine w_calli (va_runV (As := [.int (v1 / (12 : Int32))]) (rest := []) ⟨hx, hb, hml, hown, hts⟩ (mtX8_isNode l D ad cA A σ (v1 / (12 : Int32)) _ hq) (cwV 1 hts gX8_parted_X8_isNode rfl rfl rfl (by decide +kernel) ⟨Nat.le_of_ble_eq_true rfl, Nat.le_of_ble_eq_true rfl⟩) ⟨stW_blind nwM_ok, va_recv hK hP (ci := 8) (q0 := 0) rfl wMg0, stW_pass hA hS hN hK hP hD nwM_ok⟩ rfl rfl hl.1 rfl (lv_room (Nat.le_of_ble_eq_true rfl)) dX8_parted_36 ⟨Nat.le_of_ble_eq_true rfl, Nat.le_of_ble_eq_true rfl⟩) hS (fun r1 σ1 H locs hq hP hD hS => ?_)
      refine lv_if_eq (tgt := 120) hx hb dX8_parted_39 (by decide) (fun hc => ?_) (fun hc => ?_)
      · have hq := hq.1 hc
        refine lv_iinc (v := (v1 + (1 : Int32))) (lv' := [(1, .int (v1 + (1 : Int32))), (3, .int (v1 - v1 / (12 : Int32) * (12 : Int32))), (2, .int (v1 / (12 : Int32))), (0, .ref (ad 0))]) hx hb dX8_parted_120 hl (k := 3) rfl (by rfl) (by decide) rfl (fun ls hl => ?_)
        refine lv_goto (tgt := 17) hx hb dX8_parted_123 (by decide) ?_
        rw [hK17] at hq
        exact hq _ _ _ hP hD hS (lv_sub hl [3, 0] rfl)
      · have hq := hq.2 hc
        refine lv_aload_n hx hb dX8_parted_42 rfl (lv_at hl 2 rfl) ?_
        refine lv_iload_n hx hb dX8_parted_43 rfl (lv_at hl 0 rfl) ?_
        refine w_calli (va_runV (As := [.int (v1 - v1 / (12 : Int32) * (12 : Int32))]) (rest := []) ⟨hx, hb, hml, hown, hts⟩ (mtX8_isNode l D ad cA A σ1 (v1 - v1 / (12 : Int32) * (12 : Int32)) _ hq) (cwV 1 hts gX8_parted_X8_isNode rfl rfl rfl (by decide +kernel) ⟨Nat.le_of_ble_eq_true rfl, Nat.le_of_ble_eq_true rfl⟩) ⟨stW_blind nwM_ok, va_recv hK hP (ci := 8) (q0 := 0) rfl wMg0, stW_pass hA hS hN hK hP hD nwM_ok⟩ rfl rfl hl.1 rfl (lv_room (Nat.le_of_ble_eq_true rfl)) dX8_parted_44 ⟨Nat.le_of_ble_eq_true rfl, Nat.le_of_ble_eq_true rfl⟩) hS (fun r2 σ2 H locs hq hP hD hS => ?_)
        refine lv_if_eq (tgt := 120) hx hb dX8_parted_47 (by decide) (fun hc => ?_) (fun hc => ?_)
        · have hq := hq.1 hc
          refine lv_iinc (v := (v1 + (1 : Int32))) (lv' := [(1, .int (v1 + (1 : Int32))), (3, .int (v1 - v1 / (12 : Int32) * (12 : Int32))), (2, .int (v1 / (12 : Int32))), (0, .ref (ad 0))]) hx hb dX8_parted_120 hl (k := 3) rfl (by rfl) (by decide) rfl (fun ls hl => ?_)
          refine lv_goto (tgt := 17) hx hb dX8_parted_123 (by decide) ?_
          rw [hK17] at hq
          exact hq _ _ _ hP hD hS (lv_sub hl [3, 0] rfl)
        · have hq := hq.2 hc
          refine lv_aload_n hx hb dX8_parted_50 rfl (lv_at hl 2 rfl) ?_
          refine lv_iload_n hx hb dX8_parted_51 rfl (lv_at hl 1 rfl) ?_
          refine lv_iload_n hx hb dX8_parted_52 rfl (lv_at hl 0 rfl) ?_
          refine w_calli (va_runV (As := [.int (v1 / (12 : Int32)), .int (v1 - v1 / (12 : Int32) * (12 : Int32))]) (rest := []) ⟨hx, hb, hml, hown, hts⟩ (mtX8_isPair l D ad cA A σ2 (v1 / (12 : Int32)) (v1 - v1 / (12 : Int32) * (12 : Int32)) _ hq) (cwV 2 hts gX8_parted_X8_isPair rfl rfl rfl (by decide +kernel) ⟨Nat.le_of_ble_eq_true rfl, Nat.le_of_ble_eq_true rfl⟩) ⟨stW_blind nwM_ok, va_recv hK hP (ci := 8) (q0 := 0) rfl wMg0, stW_pass hA hS hN hK hP hD nwM_ok⟩ rfl rfl hl.1 rfl (lv_room (Nat.le_of_ble_eq_true rfl)) dX8_parted_53 ⟨Nat.le_of_ble_eq_true rfl, Nat.le_of_ble_eq_true rfl⟩) hS (fun r3 σ3 H locs hq hP hD hS => ?_)
          refine lv_if_eq (tgt := 120) hx hb dX8_parted_56 (by decide) (fun hc => ?_) (fun hc => ?_)
          · have hq := hq.1 hc
            refine lv_iinc (v := (v1 + (1 : Int32))) (lv' := [(1, .int (v1 + (1 : Int32))), (3, .int (v1 - v1 / (12 : Int32) * (12 : Int32))), (2, .int (v1 / (12 : Int32))), (0, .ref (ad 0))]) hx hb dX8_parted_120 hl (k := 3) rfl (by rfl) (by decide) rfl (fun ls hl => ?_)
            refine lv_goto (tgt := 17) hx hb dX8_parted_123 (by decide) ?_
            rw [hK17] at hq
            exact hq _ _ _ hP hD hS (lv_sub hl [3, 0] rfl)
          · have hq := hq.2 hc
            refine lv_aload_n hx hb dX8_parted_59 rfl (lv_at hl 2 rfl) ?_
            refine lv_iload_n hx hb dX8_parted_60 rfl (lv_at hl 1 rfl) ?_
            refine lv_iload_n hx hb dX8_parted_61 rfl (lv_at hl 0 rfl) ?_
            refine w_calli (va_runV (As := [.int (v1 / (12 : Int32)), .int (v1 - v1 / (12 : Int32) * (12 : Int32))]) (rest := []) ⟨hx, hb, hml, hown, hts⟩ (mtX8_isCandidate l D ad cA A σ3 (v1 / (12 : Int32)) (v1 - v1 / (12 : Int32) * (12 : Int32)) _ hq) (cwV 2 hts gX8_parted_X8_isCandidate rfl rfl rfl (by decide +kernel) ⟨Nat.le_of_ble_eq_true rfl, Nat.le_of_ble_eq_true rfl⟩) ⟨stW_blind nwM_ok, va_recv hK hP (ci := 8) (q0 := 0) rfl wMg0, stW_pass hA hS hN hK hP hD nwM_ok⟩ rfl rfl hl.1 rfl (lv_room (Nat.le_of_ble_eq_true rfl)) dX8_parted_62 ⟨Nat.le_of_ble_eq_true rfl, Nat.le_of_ble_eq_true rfl⟩) hS (fun r4 σ4 H locs hq hP hD hS => ?_)
            refine lv_if_eq (tgt := 120) hx hb dX8_parted_65 (by decide) (fun hc => ?_) (fun hc => ?_)
            · have hq := hq.1 hc
              refine lv_iinc (v := (v1 + (1 : Int32))) (lv' := [(1, .int (v1 + (1 : Int32))), (3, .int (v1 - v1 / (12 : Int32) * (12 : Int32))), (2, .int (v1 / (12 : Int32))), (0, .ref (ad 0))]) hx hb dX8_parted_120 hl (k := 3) rfl (by rfl) (by decide) rfl (fun ls hl => ?_)
              refine lv_goto (tgt := 17) hx hb dX8_parted_123 (by decide) ?_
              rw [hK17] at hq
              exact hq _ _ _ hP hD hS (lv_sub hl [3, 0] rfl)
            · have hq := hq.2 hc
              refine lv_aload_n hx hb dX8_parted_68 rfl (lv_at hl 2 rfl) ?_
              refine lv_iload_n hx hb dX8_parted_69 rfl (lv_at hl 1 rfl) ?_
              refine lv_iload_n hx hb dX8_parted_70 rfl (lv_at hl 0 rfl) ?_
              refine w_calli (va_runV (As := [.int (v1 / (12 : Int32)), .int (v1 - v1 / (12 : Int32) * (12 : Int32))]) (rest := []) ⟨hx, hb, hml, hown, hts⟩ (mtX8_isFound l D ad cA A σ4 (v1 / (12 : Int32)) (v1 - v1 / (12 : Int32) * (12 : Int32)) _ hq) (cwV 2 hts gX8_parted_X8_isFound rfl rfl rfl (by decide +kernel) ⟨Nat.le_of_ble_eq_true rfl, Nat.le_of_ble_eq_true rfl⟩) ⟨stW_blind nwM_ok, va_recv hK hP (ci := 8) (q0 := 0) rfl wMg0, stW_pass hA hS hN hK hP hD nwM_ok⟩ rfl rfl hl.1 rfl (lv_room (Nat.le_of_ble_eq_true rfl)) dX8_parted_71 ⟨Nat.le_of_ble_eq_true rfl, Nat.le_of_ble_eq_true rfl⟩) hS (fun r5 σ5 H locs hq hP hD hS => ?_)
              refine lv_if_eq (tgt := 100) hx hb dX8_parted_74 (by decide) (fun hc => ?_) (fun hc => ?_)
              · have hq := hq.1 hc
                refine lv_aload_n hx hb dX8_parted_100 rfl (lv_at hl 2 rfl) ?_
                refine va_get (D := D) (ci := 8) (v := .ref (ad 17)) (C := RX8) (T := TX8) (N := 32) hx hb hts hiX8 hown hK hP 0 wMg0 rfl 27 (by decide) (hts (.fieldLink RX8 77 "ArcGuesserModel" "empties" "[I") (List.mem_of_getElem? (i := 4) rfl)) (fun _ h9 => h9) rfl dX8_parted_101 ?_
                refine lv_aload_n hx hb dX8_parted_104 rfl (lv_at hl 2 rfl) ?_
                refine va_get (D := D) (ci := 8) (v := .int (σ5.1 0 29)) (C := RX8) (T := TX8) (N := 32) hx hb hts hiX8 hown hK hP 0 wMg0 rfl 29 (by decide) (hts (.fieldLink RX8 208 "ArcGuesserModel" "emptyMany" "I") (List.mem_of_getElem? (i := 2) rfl)) (fun _ h9 => h9) rfl dX8_parted_105 ?_
                refine lv_iload_n hx hb dX8_parted_108 rfl (lv_at hl 3 rfl) ?_
                refine va_iast hx hb hK hP hD hS 17 0 wMg17 rfl hq.1 dX8_parted_109 (fun H locs hP hD hS => ?_)
                have hP := wMsP17 hP
                have hD := wMsD17 hD
                have hq := hq.2
                refine lv_aload_n hx hb dX8_parted_110 rfl (lv_at hl 2 rfl) ?_
                refine lv_dup hx hb dX8_parted_111 rfl ?_
                refine va_get (D := D) (ci := 8) (v := .int (σ5.1 0 29)) (C := RX8) (T := TX8) (N := 32) hx hb hts hiX8 hown hK hP 0 wMg0 rfl 29 (by decide) (hts (.fieldLink RX8 208 "ArcGuesserModel" "emptyMany" "I") (List.mem_of_getElem? (i := 2) rfl)) (fun _ h9 => h9) rfl dX8_parted_112 ?_
                refine lv_iconst (v := (1 : Int32)) hx hb dX8_parted_115 (by decide) ?_
                refine lv_iadd hx hb dX8_parted_116 ?_
                refine va_put (D := D) (ci := 8) (v := .int ((σ5.1 0 29) + (1 : Int32))) (ty := .int) (C := RX8) (T := TX8) (N := 32) hx hb hts hiX8 tyX8 tyX8_ok nmX8 hown hK hP hD hS 0 wMg0 rfl 29 (by decide) (hts (.fieldLink RX8 208 "ArcGuesserModel" "emptyMany" "I") (List.mem_of_getElem? (i := 2) rfl)) (fun _ h9 => h9) rfl (by decide +kernel) rfl rfl (Nat.le_of_ble_eq_true rfl) dX8_parted_117 (fun H locs hP hD hS => ?_)
                have hP := wMfP0_29 hP
                have hD := wMfD0_29 hD
                refine lv_iinc (v := (v1 + (1 : Int32))) (lv' := [(1, .int (v1 + (1 : Int32))), (3, .int (v1 - v1 / (12 : Int32) * (12 : Int32))), (2, .int (v1 / (12 : Int32))), (0, .ref (ad 0))]) hx hb dX8_parted_120 hl (k := 3) rfl (by rfl) (by decide) rfl (fun ls hl => ?_)
                refine lv_goto (tgt := 17) hx hb dX8_parted_123 (by decide) ?_
                rw [hK17] at hq
                exact hq _ _ _ hP hD hS (lv_sub hl [3, 0] rfl)
              · have hq := hq.2 hc
                refine lv_aload_n hx hb dX8_parted_77 rfl (lv_at hl 2 rfl) ?_
                refine va_get (D := D) (ci := 8) (v := .ref (ad 16)) (C := RX8) (T := TX8) (N := 32) hx hb hts hiX8 hown hK hP 0 wMg0 rfl 26 (by decide) (hts (.fieldLink RX8 74 "ArcGuesserModel" "founds" "[I") (List.mem_of_getElem? (i := 3) rfl)) (fun _ h9 => h9) rfl dX8_parted_78 ?_
                refine lv_aload_n hx hb dX8_parted_81 rfl (lv_at hl 2 rfl) ?_
                refine va_get (D := D) (ci := 8) (v := .int (σ5.1 0 28)) (C := RX8) (T := TX8) (N := 32) hx hb hts hiX8 hown hK hP 0 wMg0 rfl 28 (by decide) (hts (.fieldLink RX8 205 "ArcGuesserModel" "foundMany" "I") (List.mem_of_getElem? (i := 1) rfl)) (fun _ h9 => h9) rfl dX8_parted_82 ?_
                refine lv_iload_n hx hb dX8_parted_85 rfl (lv_at hl 3 rfl) ?_
                refine va_iast hx hb hK hP hD hS 16 0 wMg16 rfl hq.1 dX8_parted_86 (fun H locs hP hD hS => ?_)
                have hP := wMsP16 hP
                have hD := wMsD16 hD
                have hq := hq.2
                refine lv_aload_n hx hb dX8_parted_87 rfl (lv_at hl 2 rfl) ?_
                refine lv_dup hx hb dX8_parted_88 rfl ?_
                refine va_get (D := D) (ci := 8) (v := .int (σ5.1 0 28)) (C := RX8) (T := TX8) (N := 32) hx hb hts hiX8 hown hK hP 0 wMg0 rfl 28 (by decide) (hts (.fieldLink RX8 205 "ArcGuesserModel" "foundMany" "I") (List.mem_of_getElem? (i := 1) rfl)) (fun _ h9 => h9) rfl dX8_parted_89 ?_
                refine lv_iconst (v := (1 : Int32)) hx hb dX8_parted_92 (by decide) ?_
                refine lv_iadd hx hb dX8_parted_93 ?_
                refine va_put (D := D) (ci := 8) (v := .int ((σ5.1 0 28) + (1 : Int32))) (ty := .int) (C := RX8) (T := TX8) (N := 32) hx hb hts hiX8 tyX8 tyX8_ok nmX8 hown hK hP hD hS 0 wMg0 rfl 28 (by decide) (hts (.fieldLink RX8 205 "ArcGuesserModel" "foundMany" "I") (List.mem_of_getElem? (i := 1) rfl)) (fun _ h9 => h9) rfl (by decide +kernel) rfl rfl (Nat.le_of_ble_eq_true rfl) dX8_parted_94 (fun H locs hP hD hS => ?_)
                have hP := wMfP0_28 hP
                have hD := wMfD0_28 hD
                refine lv_goto (tgt := 120) hx hb dX8_parted_97 (by decide) ?_
                refine lv_iinc (v := (v1 + (1 : Int32))) (lv' := [(1, .int (v1 + (1 : Int32))), (3, .int (v1 - v1 / (12 : Int32) * (12 : Int32))), (2, .int (v1 / (12 : Int32))), (0, .ref (ad 0))]) hx hb dX8_parted_120 hl (k := 3) rfl (by rfl) (by decide) rfl (fun ls hl => ?_)
                refine lv_goto (tgt := 17) hx hb dX8_parted_123 (by decide) ?_
                rw [hK17] at hq
                exact hq _ _ _ hP hD hS (lv_sub hl [3, 0] rfl)
  have hq := hwp K17 hk17
  refine lv_aload_n hx hb dX8_parted_0 rfl (lv_at hl 0 rfl) ?_
  refine lv_iconst (v := (0 : Int32)) hx hb dX8_parted_1 (by decide) ?_
  refine va_put (D := D) (ci := 8) (v := .int (0 : Int32)) (ty := .int) (C := RX8) (T := TX8) (N := 32) hx hb hts hiX8 tyX8 tyX8_ok nmX8 hown hK hP hD hS 0 wMg0 rfl 28 (by decide) (hts (.fieldLink RX8 205 "ArcGuesserModel" "foundMany" "I") (List.mem_of_getElem? (i := 1) rfl)) (fun _ h9 => h9) rfl (by decide +kernel) rfl rfl (Nat.le_of_ble_eq_true rfl) dX8_parted_2 (fun H locs hP hD hS => ?_)
  have hP := wMfP0_28 hP
  have hD := wMfD0_28 hD
  refine lv_aload_n hx hb dX8_parted_5 rfl (lv_at hl 0 rfl) ?_
  refine lv_iconst (v := (0 : Int32)) hx hb dX8_parted_6 (by decide) ?_
  refine va_put (D := D) (ci := 8) (v := .int (0 : Int32)) (ty := .int) (C := RX8) (T := TX8) (N := 32) hx hb hts hiX8 tyX8 tyX8_ok nmX8 hown hK hP hD hS 0 wMg0 rfl 29 (by decide) (hts (.fieldLink RX8 208 "ArcGuesserModel" "emptyMany" "I") (List.mem_of_getElem? (i := 2) rfl)) (fun _ h9 => h9) rfl (by decide +kernel) rfl rfl (Nat.le_of_ble_eq_true rfl) dX8_parted_7 (fun H locs hP hD hS => ?_)
  have hP := wMfP0_29 hP
  have hD := wMfD0_29 hD
  refine lv_aload_n hx hb dX8_parted_10 rfl (lv_at hl 0 rfl) ?_
  refine w_calli (va_runV (As := []) (rest := []) ⟨hx, hb, hml, hown, hts⟩ (mtX8_rank l D ad cA A (sI (sI σ 0 28 (0 : Int32)) 0 29 (0 : Int32))  _ hq) (cwV 0 hts gX8_parted_X8_rank rfl rfl rfl (by decide +kernel) ⟨Nat.le_of_ble_eq_true rfl, Nat.le_of_ble_eq_true rfl⟩) ⟨stW_blind nwM_ok, va_recv hK hP (ci := 8) (q0 := 0) rfl wMg0, stW_pass hA hS hN hK hP hD nwM_ok⟩ rfl rfl hl.1 rfl (lv_room (Nat.le_of_ble_eq_true rfl)) dX8_parted_11 ⟨Nat.le_of_ble_eq_true rfl, Nat.le_of_ble_eq_true rfl⟩) hS (fun r1 σ1 H locs hq hP hD hS => ?_)
  refine lv_pop hx hb dX8_parted_14 rfl ?_
  refine lv_iconst (v := (0 : Int32)) hx hb dX8_parted_15 (by decide) ?_
  refine lv_istore_n (lv' := [(1, .int (0 : Int32)), (0, .ref (ad 0))]) hx hb dX8_parted_16 rfl hl (by decide) rfl (fun ls hl => ?_)
  rw [hK17] at hq
  exact hq _ _ _ hP hD hS (lv_sub hl [1, 0] rfl)
/-! ArcGuesserModel.wins(II)J -/
def X8_wins_wp (σ : Sto) (p1 : Int32) (p2 : Int32) (Post : Int64 → Sto → Prop) : Prop :=
  (X8_compare_wp σ p1 p2 (fun r1 σ1 => (Post ((r1 + (1 : Int32))).toInt64 σ1)))
set_option maxHeartbeats 4000000 in
set_option maxRecDepth 100000 in
theorem mtX8_wins (l : Launch) (D : va_G) (ad : Nat → Nat) (cA : Nat → ClassId) (A : Nat → Prop) (σ : Sto) (p1 : Int32) (p2 : Int32) (Post : Int64 → Sto → Prop) (hwp : X8_wins_wp σ p1 p2 Post) : Met l yX8_wins wsX8_wins ({ frames := 1, cells := 0, slots := 0, locals := 26 }) (va_Pc [.ref (ad 0), .int p1, .int p2] (stW D (tyM cA) nwM (wM ad cA) A σ)) (va_Ql Post (enW D (wM ad cA) A) A) 0 0 A := by
  refine Met.ofW (cc := cX8_wins) (maxL := 3) (ret := (some .long)) (by decide) rfl ?_
  intro p e s m args below meth c s₁ B hml hv
  obtain ⟨rfl, hA, hN, hP, hK, hD⟩ := hv
  have hx := B.exec
  have hb := B.bytes
  have hr := B.returns
  have hts := atoms_spec (ws := wsX8_wins) B.pre
  have hown : s.vm.findClass RX8 = some m.cls := findClass_of_methodNamed B.named
  have hlocks := B.notSynchronized
  have hS : va_S A s.heap s.heap [] := va_S.rf
  have hl := lv_entry ([.ref (ad 0), .int p1, .int p2]) (n := 3) (Nat.le_of_ble_eq_true rfl)
  rw [lg_entry_eq]
  generalize (lg_sl ([.ref (ad 0), .int p1, .int p2]) ++ List.replicate (3 - (lg_sl ([.ref (ad 0), .int p1, .int p2])).length) Slot.unset).toArray = ls at hl ⊢
  have hl : lv_has ls 3 [(0, .ref (ad 0)), (1, .int p1), (2, .int p2)] := hl
  have hq := hwp
  unfold X8_wins_wp at hq
  refine lv_aload_n hx hb dX8_wins_0 rfl (lv_at hl 0 rfl) ?_
  refine lv_iload_n hx hb dX8_wins_1 rfl (lv_at hl 1 rfl) ?_
  refine lv_iload_n hx hb dX8_wins_2 rfl (lv_at hl 2 rfl) ?_
  refine w_calli (va_runV (As := [.int p1, .int p2]) (rest := []) ⟨hx, hb, hml, hown, hts⟩ (mtX8_compare l D ad cA A σ p1 p2 _ hq) (cwV 2 hts gX8_wins_X8_compare rfl rfl rfl (by decide +kernel) ⟨Nat.le_of_ble_eq_true rfl, Nat.le_of_ble_eq_true rfl⟩) ⟨stW_blind nwM_ok, va_recv hK hP (ci := 8) (q0 := 0) rfl wMg0, stW_pass hA hS hN hK hP hD nwM_ok⟩ rfl rfl hl.1 rfl (lv_room (Nat.le_of_ble_eq_true rfl)) dX8_wins_3 ⟨Nat.le_of_ble_eq_true rfl, Nat.le_of_ble_eq_true rfl⟩) hS (fun r1 σ1 H locs hq hP hD hS => ?_)
  refine lv_iconst (v := (1 : Int32)) hx hb dX8_wins_6 (by decide) ?_
  refine lv_iadd hx hb dX8_wins_7 ?_
  refine lv_i2l hx hb dX8_wins_8 rfl ?_
  exact W.lret (v := ((r1 + (1 : Int32))).toInt64) hx hb hr (fun t ht hW => ⟨⟨((r1 + (1 : Int32))).toInt64, σ1, rfl, hq, by rw [ht]; exact hP, hD⟩, hS.F ht⟩) hS.2.2 dX8_wins_9
/-! ArcGuesserModel.shares()Z -/
def X8_shares_b13  (K13 : Sto → Int64 → Int32 → Prop) (K24 : Sto → Int64 → Int32 → Int32 → Prop) (Post : Int32 → Sto → Prop) (σ : Sto) (v1 : Int64) (v3 : Int32) : Prop :=
  (((σ.1 0 28) ≤ v3 → (X8_make_wp σ v1 (((2 : Int64) * ((σ.1 0 28)).toInt64) * ((σ.1 0 29)).toInt64) (fun σ1 => (Post (1 : Int32) σ1)))) ∧ (¬ (σ.1 0 28) ≤ v3 → (K24 σ v1 v3 (0 : Int32))))
def X8_shares_b24  (K13 : Sto → Int64 → Int32 → Prop) (K24 : Sto → Int64 → Int32 → Int32 → Prop) (Post : Int32 → Sto → Prop) (σ : Sto) (v1 : Int64) (v3 : Int32) (v4 : Int32) : Prop :=
  (((σ.1 0 29) ≤ v4 → (K13 σ v1 (v3 + (1 : Int32)))) ∧ (¬ (σ.1 0 29) ≤ v4 → (vp_in v3 132 ∧ (vp_in v4 132 ∧ (X8_wins_wp σ (σ.1 16 (v3).toNatClampNeg) (σ.1 17 (v4).toNatClampNeg) (fun r1 σ1 => (K24 σ1 (v1 + r1) v3 (v4 + (1 : Int32)))))))))
def X8_shares_wp (σ : Sto)  (Post : Int32 → Sto → Prop) : Prop := ∀ (K13 : Sto → Int64 → Int32 → Prop) (K24 : Sto → Int64 → Int32 → Int32 → Prop), (∀ (σ : Sto) (v1 : Int64) (v3 : Int32), X8_shares_b13  K13 K24 Post σ v1 v3 → K13 σ v1 v3) → (∀ (σ : Sto) (v1 : Int64) (v3 : Int32) (v4 : Int32), X8_shares_b24  K13 K24 Post σ v1 v3 v4 → K24 σ v1 v3 v4) → 
  (X8_parted_wp σ  (fun r1 σ1 => ((¬ r1 = 0 → (K13 σ1 (0 : Int64) (0 : Int32))) ∧ (r1 = 0 → (Post (0 : Int32) σ1)))))
set_option maxHeartbeats 4000000 in
set_option maxRecDepth 100000 in
theorem mtX8_shares (l : Launch) (D : va_G) (ad : Nat → Nat) (cA : Nat → ClassId) (A : Nat → Prop) (σ : Sto)  (Post : Int32 → Sto → Prop) (hwp : X8_shares_wp σ  Post) : Met l yX8_shares wsX8_shares ({ frames := 9, cells := 0, slots := 0, locals := 239 }) (va_Pc [.ref (ad 0)] (stW D (tyM cA) nwM (wM ad cA) A σ)) (va_Qi Post (enW D (wM ad cA) A) A) 0 0 A := by
  refine Met.ofW (cc := cX8_shares) (maxL := 5) (ret := (some .boolean)) (by decide) rfl ?_
  intro p e s m args below meth c s₁ B hml hv
  obtain ⟨rfl, hA, hN, hP, hK, hD⟩ := hv
  have hx := B.exec
  have hb := B.bytes
  have hr := B.returns
  have hts := atoms_spec (ws := wsX8_shares) B.pre
  have hown : s.vm.findClass RX8 = some m.cls := findClass_of_methodNamed B.named
  have hlocks := B.notSynchronized
  have hiX8 : ∀ w ∈ wsX80, w ∈ wsX8_shares := by decide +kernel
  have hS : va_S A s.heap s.heap [] := va_S.rf
  have hl := lv_entry ([.ref (ad 0)]) (n := 5) (Nat.le_of_ble_eq_true rfl)
  rw [lg_entry_eq]
  generalize (lg_sl ([.ref (ad 0)]) ++ List.replicate (5 - (lg_sl ([.ref (ad 0)])).length) Slot.unset).toArray = ls at hl ⊢
  have hl : lv_has ls 5 [(0, .ref (ad 0))] := hl
  obtain ⟨K13, hK13⟩ : ∃ K : Sto → Int64 → Int32 → Prop, K = fun (σ : Sto) (v1 : Int64) (v3 : Int32) => ∀ (H : Heap) (locs : List Loc) (ls : Array Slot), va_P D vwCl ((wM ad cA) σ) H → va_D A ((wM ad cA) σ) → va_S A s.heap H locs → lv_has ls 5 [(0, .ref (ad 0)), (1, .long v1), (3, .int v3)] → W p l e (headSpec wsX8_shares ({ frames := 9, cells := 0, slots := 0, locals := 239 })).room s m ([.ref (ad 0)] : List Value).toArray below meth c H locs 0 0 (MQ below (va_Qi Post (enW D (wM ad cA) A) A) ([.ref (ad 0)] : List Value).toArray s 0 0 A) (F0 m 13 ls []) := ⟨_, rfl⟩
  obtain ⟨K24, hK24⟩ : ∃ K : Sto → Int64 → Int32 → Int32 → Prop, K = fun (σ : Sto) (v1 : Int64) (v3 : Int32) (v4 : Int32) => ∀ (H : Heap) (locs : List Loc) (ls : Array Slot), va_P D vwCl ((wM ad cA) σ) H → va_D A ((wM ad cA) σ) → va_S A s.heap H locs → lv_has ls 5 [(0, .ref (ad 0)), (1, .long v1), (3, .int v3), (4, .int v4)] → W p l e (headSpec wsX8_shares ({ frames := 9, cells := 0, slots := 0, locals := 239 })).room s m ([.ref (ad 0)] : List Value).toArray below meth c H locs 0 0 (MQ below (va_Qi Post (enW D (wM ad cA) A) A) ([.ref (ad 0)] : List Value).toArray s 0 0 A) (F0 m 24 ls []) := ⟨_, rfl⟩
  have hk13 : ∀ (σ : Sto) (v1 : Int64) (v3 : Int32), X8_shares_b13  K13 K24 Post σ v1 v3 → K13 σ v1 v3 := by
    intro σ v1 v3 hq
    rw [hK13]
    intro H locs ls hP hD hS hl
    unfold X8_shares_b13 at hq
    refine lv_iload_n hx hb dX8_shares_13 rfl (lv_at hl 2 rfl) ?_
    refine lv_aload_n hx hb dX8_shares_14 rfl (lv_at hl 0 rfl) ?_
    refine va_get (D := D) (ci := 8) (v := .int (σ.1 0 28)) (C := RX8) (T := TX8) (N := 32) hx hb hts hiX8 hown hK hP 0 wMg0 rfl 28 (by decide) (hts (.fieldLink RX8 205 "ArcGuesserModel" "foundMany" "I") (List.mem_of_getElem? (i := 1) rfl)) (fun _ h9 => h9) rfl dX8_shares_15 ?_
    refine lv_icmp_ge (tgt := 65) hx hb dX8_shares_18 (by decide) (fun hc => ?_) (fun hc => ?_)
    · have hq := hq.1 hc
      refine lv_aload_n hx hb dX8_shares_65 rfl (lv_at hl 0 rfl) ?_
      refine lv_lload_n hx hb dX8_shares_66 rfl (lv_at hl 1 rfl) ?_
      refine lv_ldc2 (v := (2 : Int64)) hx hb hown (hts (.constantLong RX8 164 (2)) (List.mem_of_getElem? (i := 5) rfl)) dX8_shares_67 ?_
      refine lv_aload_n hx hb dX8_shares_70 rfl (lv_at hl 0 rfl) ?_
      refine va_get (D := D) (ci := 8) (v := .int (σ.1 0 28)) (C := RX8) (T := TX8) (N := 32) hx hb hts hiX8 hown hK hP 0 wMg0 rfl 28 (by decide) (hts (.fieldLink RX8 205 "ArcGuesserModel" "foundMany" "I") (List.mem_of_getElem? (i := 1) rfl)) (fun _ h9 => h9) rfl dX8_shares_71 ?_
      refine lv_i2l hx hb dX8_shares_74 rfl ?_
      refine lv_lmul hx hb dX8_shares_75 ?_
      refine lv_aload_n hx hb dX8_shares_76 rfl (lv_at hl 0 rfl) ?_
      refine va_get (D := D) (ci := 8) (v := .int (σ.1 0 29)) (C := RX8) (T := TX8) (N := 32) hx hb hts hiX8 hown hK hP 0 wMg0 rfl 29 (by decide) (hts (.fieldLink RX8 208 "ArcGuesserModel" "emptyMany" "I") (List.mem_of_getElem? (i := 2) rfl)) (fun _ h9 => h9) rfl dX8_shares_77 ?_
      refine lv_i2l hx hb dX8_shares_80 rfl ?_
      refine lv_lmul hx hb dX8_shares_81 ?_
      refine w_callv (va_runV (As := [.long v1, .long (((2 : Int64) * ((σ.1 0 28)).toInt64) * ((σ.1 0 29)).toInt64)]) (rest := []) ⟨hx, hb, hml, hown, hts⟩ (mtX8_make l D ad cA A σ v1 (((2 : Int64) * ((σ.1 0 28)).toInt64) * ((σ.1 0 29)).toInt64) _ hq) (cwV 2 hts gX8_shares_X8_make rfl rfl rfl (by decide +kernel) ⟨Nat.le_of_ble_eq_true rfl, Nat.le_of_ble_eq_true rfl⟩) ⟨stW_blind nwM_ok, va_recv hK hP (ci := 8) (q0 := 0) rfl wMg0, stW_pass hA hS hN hK hP hD nwM_ok⟩ rfl rfl hl.1 rfl (lv_room (Nat.le_of_ble_eq_true rfl)) dX8_shares_82 ⟨Nat.le_of_ble_eq_true rfl, Nat.le_of_ble_eq_true rfl⟩) hS (fun σ1 H locs hq hP hD hS => ?_)
      refine lv_iconst (v := (1 : Int32)) hx hb dX8_shares_85 (by decide) ?_
      exact W.zret (v := (1 : Int32)) hx hb hr rfl (fun t ht hW => ⟨⟨(1 : Int32), σ1, rfl, hq, by rw [ht]; exact hP, hD⟩, hS.F ht⟩) hS.2.2 dX8_shares_86
    · have hq := hq.2 hc
      refine lv_iconst (v := (0 : Int32)) hx hb dX8_shares_21 (by decide) ?_
      refine lv_istore (lv' := [(4, .int (0 : Int32)), (0, .ref (ad 0)), (1, .long v1), (3, .int v3)]) hx hb dX8_shares_22 hl (by decide) rfl (fun ls hl => ?_)
      rw [hK24] at hq
      exact hq _ _ _ hP hD hS (lv_sub hl [1, 2, 3, 0] rfl)
  have hk24 : ∀ (σ : Sto) (v1 : Int64) (v3 : Int32) (v4 : Int32), X8_shares_b24  K13 K24 Post σ v1 v3 v4 → K24 σ v1 v3 v4 := by
    intro σ v1 v3 v4 hq
    rw [hK24]
    intro H locs ls hP hD hS hl
    unfold X8_shares_b24 at hq
    refine lv_iload hx hb dX8_shares_24 (lv_at hl 3 rfl) ?_
    refine lv_aload_n hx hb dX8_shares_26 rfl (lv_at hl 0 rfl) ?_
    refine va_get (D := D) (ci := 8) (v := .int (σ.1 0 29)) (C := RX8) (T := TX8) (N := 32) hx hb hts hiX8 hown hK hP 0 wMg0 rfl 29 (by decide) (hts (.fieldLink RX8 208 "ArcGuesserModel" "emptyMany" "I") (List.mem_of_getElem? (i := 2) rfl)) (fun _ h9 => h9) rfl dX8_shares_27 ?_
    refine lv_icmp_ge (tgt := 59) hx hb dX8_shares_30 (by decide) (fun hc => ?_) (fun hc => ?_)
    · have hq := hq.1 hc
      refine lv_iinc (v := (v3 + (1 : Int32))) (lv' := [(3, .int (v3 + (1 : Int32))), (0, .ref (ad 0)), (1, .long v1), (4, .int v4)]) hx hb dX8_shares_59 hl (k := 2) rfl (by rfl) (by decide) rfl (fun ls hl => ?_)
      refine lv_goto (tgt := 13) hx hb dX8_shares_62 (by decide) ?_
      rw [hK13] at hq
      exact hq _ _ _ hP hD hS (lv_sub hl [1, 2, 0] rfl)
    · have hq := hq.2 hc
      refine lv_lload_n hx hb dX8_shares_33 rfl (lv_at hl 1 rfl) ?_
      refine lv_aload_n hx hb dX8_shares_34 rfl (lv_at hl 0 rfl) ?_
      refine lv_aload_n hx hb dX8_shares_35 rfl (lv_at hl 0 rfl) ?_
      refine va_get (D := D) (ci := 8) (v := .ref (ad 16)) (C := RX8) (T := TX8) (N := 32) hx hb hts hiX8 hown hK hP 0 wMg0 rfl 26 (by decide) (hts (.fieldLink RX8 74 "ArcGuesserModel" "founds" "[I") (List.mem_of_getElem? (i := 3) rfl)) (fun _ h9 => h9) rfl dX8_shares_36 ?_
      refine lv_iload_n hx hb dX8_shares_39 rfl (lv_at hl 2 rfl) ?_
      refine va_iald hx hb hK hP 16 0 wMg16 rfl hq.1 dX8_shares_40 ?_
      have hq := hq.2
      refine lv_aload_n hx hb dX8_shares_41 rfl (lv_at hl 0 rfl) ?_
      refine va_get (D := D) (ci := 8) (v := .ref (ad 17)) (C := RX8) (T := TX8) (N := 32) hx hb hts hiX8 hown hK hP 0 wMg0 rfl 27 (by decide) (hts (.fieldLink RX8 77 "ArcGuesserModel" "empties" "[I") (List.mem_of_getElem? (i := 4) rfl)) (fun _ h9 => h9) rfl dX8_shares_42 ?_
      refine lv_iload hx hb dX8_shares_45 (lv_at hl 3 rfl) ?_
      refine va_iald hx hb hK hP 17 0 wMg17 rfl hq.1 dX8_shares_47 ?_
      have hq := hq.2
      refine w_calll (va_runV (As := [.int (σ.1 16 (v3).toNatClampNeg), .int (σ.1 17 (v4).toNatClampNeg)]) (rest := [.long v1]) ⟨hx, hb, hml, hown, hts⟩ (mtX8_wins l D ad cA A σ (σ.1 16 (v3).toNatClampNeg) (σ.1 17 (v4).toNatClampNeg) _ hq) (cwV 2 hts gX8_shares_X8_wins rfl rfl rfl (by decide +kernel) ⟨Nat.le_of_ble_eq_true rfl, Nat.le_of_ble_eq_true rfl⟩) ⟨stW_blind nwM_ok, va_recv hK hP (ci := 8) (q0 := 0) rfl wMg0, stW_pass hA hS hN hK hP hD nwM_ok⟩ rfl rfl hl.1 rfl (lv_room (Nat.le_of_ble_eq_true rfl)) dX8_shares_48 ⟨Nat.le_of_ble_eq_true rfl, Nat.le_of_ble_eq_true rfl⟩) hS (fun r1 σ1 H locs hq hP hD hS => ?_)
      refine lv_ladd hx hb dX8_shares_51 ?_
      refine lv_lstore_n (lv' := [(1, .long (v1 + r1)), (0, .ref (ad 0)), (3, .int v3), (4, .int v4)]) hx hb dX8_shares_52 rfl hl (by decide) rfl (fun ls hl => ?_)
      refine lv_iinc (v := (v4 + (1 : Int32))) (lv' := [(4, .int (v4 + (1 : Int32))), (1, .long (v1 + r1)), (0, .ref (ad 0)), (3, .int v3)]) hx hb dX8_shares_53 hl (k := 3) rfl (by rfl) (by decide) rfl (fun ls hl => ?_)
      refine lv_goto (tgt := 24) hx hb dX8_shares_56 (by decide) ?_
      rw [hK24] at hq
      exact hq _ _ _ hP hD hS (lv_sub hl [2, 1, 3, 0] rfl)
  have hq := hwp K13 K24 hk13 hk24
  refine lv_aload_n hx hb dX8_shares_0 rfl (lv_at hl 0 rfl) ?_
  refine w_calli (va_runV (As := []) (rest := []) ⟨hx, hb, hml, hown, hts⟩ (mtX8_parted l D ad cA A σ  _ hq) (cwV 0 hts gX8_shares_X8_parted rfl rfl rfl (by decide +kernel) ⟨Nat.le_of_ble_eq_true rfl, Nat.le_of_ble_eq_true rfl⟩) ⟨stW_blind nwM_ok, va_recv hK hP (ci := 8) (q0 := 0) rfl wMg0, stW_pass hA hS hN hK hP hD nwM_ok⟩ rfl rfl hl.1 rfl (lv_room (Nat.le_of_ble_eq_true rfl)) dX8_shares_1 ⟨Nat.le_of_ble_eq_true rfl, Nat.le_of_ble_eq_true rfl⟩) hS (fun r1 σ1 H locs hq hP hD hS => ?_)
  refine lv_if_ne (tgt := 9) hx hb dX8_shares_4 (by decide) (fun hc => ?_) (fun hc => ?_)
  · have hq := hq.1 hc
    refine lv_lconst (v := (0 : Int64)) hx hb dX8_shares_9 (by decide) ?_
    refine lv_lstore_n (lv' := [(1, .long (0 : Int64)), (0, .ref (ad 0))]) hx hb dX8_shares_10 rfl hl (by decide) rfl (fun ls hl => ?_)
    refine lv_iconst (v := (0 : Int32)) hx hb dX8_shares_11 (by decide) ?_
    refine lv_istore_n (lv' := [(3, .int (0 : Int32)), (1, .long (0 : Int64)), (0, .ref (ad 0))]) hx hb dX8_shares_12 rfl hl (by decide) rfl (fun ls hl => ?_)
    rw [hK13] at hq
    exact hq _ _ _ hP hD hS (lv_sub hl [2, 1, 0] rfl)
  · have hq := hq.2 hc
    refine lv_iconst (v := (0 : Int32)) hx hb dX8_shares_7 (by decide) ?_
    exact W.zret (v := (0 : Int32)) hx hb hr rfl (fun t ht hW => ⟨⟨(0 : Int32), σ1, rfl, hq, by rw [ht]; exact hP, hD⟩, hS.F ht⟩) hS.2.2 dX8_shares_8
/-! ArcGuesserModel.learn(II)I -/
def X8_learn_b29 (p1 : Int32) (p2 : Int32) (K29 : Sto → Int32 → Int32 → Prop) (K74 : Sto → Int32 → Int32 → Prop) (K130 : Sto → Int32 → Int64 → Int64 → Int32 → Int32 → Prop) (K153 : Sto → Int32 → Int64 → Int64 → Int32 → Int32 → Prop) (K169 : Sto → Int32 → Int64 → Int64 → Int32 → Int32 → Int32 → Int32 → Prop) (K250 : Sto → Int32 → Int64 → Int64 → Int32 → Int32 → Int32 → Prop) (K290 : Sto → Int32 → Int64 → Int64 → Int32 → Prop) (Post : Int32 → Sto → Prop) (σ : Sto) (v3 : Int32) (v4 : Int32) : Prop :=
  (((11 : Int32) ≤ v4 → ((v3 ≤ (3 : Int32) → (X8_parted_wp σ  (fun r1 σ1 => ((¬ r1 = 0 → (K74 σ1 (0 : Int32) (0 : Int32))) ∧ (r1 = 0 → (Post (-3 : Int32) σ1)))))) ∧ (¬ v3 ≤ (3 : Int32) → (Post (-2 : Int32) σ)))) ∧ (¬ (11 : Int32) ≤ v4 → (K29 σ (v3 + ((p1 >>> (v4 &&& 31)) &&& (1 : Int32))) (v4 + (1 : Int32)))))
def X8_learn_b74 (p1 : Int32) (p2 : Int32) (K29 : Sto → Int32 → Int32 → Prop) (K74 : Sto → Int32 → Int32 → Prop) (K130 : Sto → Int32 → Int64 → Int64 → Int32 → Int32 → Prop) (K153 : Sto → Int32 → Int64 → Int64 → Int32 → Int32 → Prop) (K169 : Sto → Int32 → Int64 → Int64 → Int32 → Int32 → Int32 → Int32 → Prop) (K250 : Sto → Int32 → Int64 → Int64 → Int32 → Int32 → Int32 → Prop) (K290 : Sto → Int32 → Int64 → Int64 → Int32 → Prop) (Post : Int32 → Sto → Prop) (σ : Sto) (v3 : Int32) (v4 : Int32) : Prop :=
  (((11 : Int32) ≤ v4 → (K130 σ v3 (-1 : Int64) (1 : Int64) (1 : Int32) (0 : Int32))) ∧ (¬ (11 : Int32) ≤ v4 → (vp_in v4 11 ∧ ((¬ ((p1 >>> (v4 &&& 31)) &&& (1 : Int32)) = (1 : Int32) → (K74 (sI σ 7 (v4).toNatClampNeg (0 : Int32)) v3 (v4 + (1 : Int32)))) ∧ (((p1 >>> (v4 &&& 31)) &&& (1 : Int32)) = (1 : Int32) → (vp_in v3 3 ∧ (K74 (sI (sI σ 7 (v4).toNatClampNeg (0 : Int32)) 18 (v3).toNatClampNeg v4) (v3 + (1 : Int32)) (v4 + (1 : Int32)))))))))
def X8_learn_b130 (p1 : Int32) (p2 : Int32) (K29 : Sto → Int32 → Int32 → Prop) (K74 : Sto → Int32 → Int32 → Prop) (K130 : Sto → Int32 → Int64 → Int64 → Int32 → Int32 → Prop) (K153 : Sto → Int32 → Int64 → Int64 → Int32 → Int32 → Prop) (K169 : Sto → Int32 → Int64 → Int64 → Int32 → Int32 → Int32 → Int32 → Prop) (K250 : Sto → Int32 → Int64 → Int64 → Int32 → Int32 → Int32 → Prop) (K290 : Sto → Int32 → Int64 → Int64 → Int32 → Prop) (Post : Int32 → Sto → Prop) (σ : Sto) (v3 : Int32) (v4 : Int64) (v6 : Int64) (v8 : Int32) (v9 : Int32) : Prop :=
  ((v3 ≤ v9 → (K153 σ v3 v4 v6 v8 (0 : Int32))) ∧ (¬ v3 ≤ v9 → (K130 σ v3 v4 v6 (v8 * (p2 + (1 : Int32))) (v9 + (1 : Int32)))))
def X8_learn_b153 (p1 : Int32) (p2 : Int32) (K29 : Sto → Int32 → Int32 → Prop) (K74 : Sto → Int32 → Int32 → Prop) (K130 : Sto → Int32 → Int64 → Int64 → Int32 → Int32 → Prop) (K153 : Sto → Int32 → Int64 → Int64 → Int32 → Int32 → Prop) (K169 : Sto → Int32 → Int64 → Int64 → Int32 → Int32 → Int32 → Int32 → Prop) (K250 : Sto → Int32 → Int64 → Int64 → Int32 → Int32 → Int32 → Prop) (K290 : Sto → Int32 → Int64 → Int64 → Int32 → Prop) (Post : Int32 → Sto → Prop) (σ : Sto) (v3 : Int32) (v4 : Int64) (v6 : Int64) (v8 : Int32) (v9 : Int32) : Prop :=
  ((v8 ≤ v9 → (K290 σ v3 v4 v6 (0 : Int32))) ∧ (¬ v8 ≤ v9 → (K169 σ v3 v4 v6 v8 v9 v9 (v3 - (1 : Int32)))))
def X8_learn_b169 (p1 : Int32) (p2 : Int32) (K29 : Sto → Int32 → Int32 → Prop) (K74 : Sto → Int32 → Int32 → Prop) (K130 : Sto → Int32 → Int64 → Int64 → Int32 → Int32 → Prop) (K153 : Sto → Int32 → Int64 → Int64 → Int32 → Int32 → Prop) (K169 : Sto → Int32 → Int64 → Int64 → Int32 → Int32 → Int32 → Int32 → Prop) (K250 : Sto → Int32 → Int64 → Int64 → Int32 → Int32 → Int32 → Prop) (K290 : Sto → Int32 → Int64 → Int64 → Int32 → Prop) (Post : Int32 → Sto → Prop) (σ : Sto) (v3 : Int32) (v4 : Int64) (v6 : Int64) (v8 : Int32) (v9 : Int32) (v10 : Int32) (v11 : Int32) : Prop :=
  ((v11 < 0 → (X8_shares_wp σ  (fun r1 σ1 => ((r1 = 0 → (K153 σ1 v3 v4 v6 v8 (v9 + (1 : Int32)))) ∧ (¬ r1 = 0 → (((lg_cmp ((σ1.2 0 19) * v6) (v4 * (σ1.2 0 20))) ≤ 0 → (K153 σ1 v3 v4 v6 v8 (v9 + (1 : Int32)))) ∧ (¬ (lg_cmp ((σ1.2 0 19) * v6) (v4 * (σ1.2 0 20))) ≤ 0 → (K250 σ1 v3 (σ1.2 0 19) (σ1.2 0 20) v8 v9 (0 : Int32))))))))) ∧ (¬ v11 < 0 → (vp_in v11 3 ∧ ((¬ (p2 + (1 : Int32)) = 0) ∧ (vp_in (σ.1 18 (v11).toNatClampNeg) 11 ∧ ((¬ (p2 + (1 : Int32)) = 0) ∧ (K169 (sI σ 7 ((σ.1 18 (v11).toNatClampNeg)).toNatClampNeg (v10 - v10 / (p2 + (1 : Int32)) * (p2 + (1 : Int32)))) v3 v4 v6 v8 v9 (v10 / (p2 + (1 : Int32))) (v11 + (-1 : Int32)))))))))
def X8_learn_b250 (p1 : Int32) (p2 : Int32) (K29 : Sto → Int32 → Int32 → Prop) (K74 : Sto → Int32 → Int32 → Prop) (K130 : Sto → Int32 → Int64 → Int64 → Int32 → Int32 → Prop) (K153 : Sto → Int32 → Int64 → Int64 → Int32 → Int32 → Prop) (K169 : Sto → Int32 → Int64 → Int64 → Int32 → Int32 → Int32 → Int32 → Prop) (K250 : Sto → Int32 → Int64 → Int64 → Int32 → Int32 → Int32 → Prop) (K290 : Sto → Int32 → Int64 → Int64 → Int32 → Prop) (Post : Int32 → Sto → Prop) (σ : Sto) (v3 : Int32) (v4 : Int64) (v6 : Int64) (v8 : Int32) (v9 : Int32) (v12 : Int32) : Prop :=
  ((v3 ≤ v12 → (K153 σ v3 v4 v6 v8 (v9 + (1 : Int32)))) ∧ (¬ v3 ≤ v12 → (vp_in v12 3 ∧ (vp_in (σ.1 18 (v12).toNatClampNeg) 11 ∧ (vp_in v12 3 ∧ (K250 (sI σ 19 (v12).toNatClampNeg (σ.1 7 ((σ.1 18 (v12).toNatClampNeg)).toNatClampNeg)) v3 v4 v6 v8 v9 (v12 + (1 : Int32))))))))
def X8_learn_b290 (p1 : Int32) (p2 : Int32) (K29 : Sto → Int32 → Int32 → Prop) (K74 : Sto → Int32 → Int32 → Prop) (K130 : Sto → Int32 → Int64 → Int64 → Int32 → Int32 → Prop) (K153 : Sto → Int32 → Int64 → Int64 → Int32 → Int32 → Prop) (K169 : Sto → Int32 → Int64 → Int64 → Int32 → Int32 → Int32 → Int32 → Prop) (K250 : Sto → Int32 → Int64 → Int64 → Int32 → Int32 → Int32 → Prop) (K290 : Sto → Int32 → Int64 → Int64 → Int32 → Prop) (Post : Int32 → Sto → Prop) (σ : Sto) (v3 : Int32) (v4 : Int64) (v6 : Int64) (v9 : Int32) : Prop :=
  ((v3 ≤ v9 → (Post (1 : Int32) (sJ (sJ σ 0 16 v4) 0 17 v6))) ∧ (¬ v3 ≤ v9 → (vp_in v9 3 ∧ (vp_in v9 3 ∧ (vp_in (σ.1 18 (v9).toNatClampNeg) 11 ∧ (K290 (sI σ 7 ((σ.1 18 (v9).toNatClampNeg)).toNatClampNeg (σ.1 19 (v9).toNatClampNeg)) v3 v4 v6 (v9 + (1 : Int32))))))))
def X8_learn_wp (σ : Sto) (p1 : Int32) (p2 : Int32) (Post : Int32 → Sto → Prop) : Prop := ∀ (K29 : Sto → Int32 → Int32 → Prop) (K74 : Sto → Int32 → Int32 → Prop) (K130 : Sto → Int32 → Int64 → Int64 → Int32 → Int32 → Prop) (K153 : Sto → Int32 → Int64 → Int64 → Int32 → Int32 → Prop) (K169 : Sto → Int32 → Int64 → Int64 → Int32 → Int32 → Int32 → Int32 → Prop) (K250 : Sto → Int32 → Int64 → Int64 → Int32 → Int32 → Int32 → Prop) (K290 : Sto → Int32 → Int64 → Int64 → Int32 → Prop), (∀ (σ : Sto) (v3 : Int32) (v4 : Int32), X8_learn_b29 p1 p2 K29 K74 K130 K153 K169 K250 K290 Post σ v3 v4 → K29 σ v3 v4) → (∀ (σ : Sto) (v3 : Int32) (v4 : Int32), X8_learn_b74 p1 p2 K29 K74 K130 K153 K169 K250 K290 Post σ v3 v4 → K74 σ v3 v4) → (∀ (σ : Sto) (v3 : Int32) (v4 : Int64) (v6 : Int64) (v8 : Int32) (v9 : Int32), X8_learn_b130 p1 p2 K29 K74 K130 K153 K169 K250 K290 Post σ v3 v4 v6 v8 v9 → K130 σ v3 v4 v6 v8 v9) → (∀ (σ : Sto) (v3 : Int32) (v4 : Int64) (v6 : Int64) (v8 : Int32) (v9 : Int32), X8_learn_b153 p1 p2 K29 K74 K130 K153 K169 K250 K290 Post σ v3 v4 v6 v8 v9 → K153 σ v3 v4 v6 v8 v9) → (∀ (σ : Sto) (v3 : Int32) (v4 : Int64) (v6 : Int64) (v8 : Int32) (v9 : Int32) (v10 : Int32) (v11 : Int32), X8_learn_b169 p1 p2 K29 K74 K130 K153 K169 K250 K290 Post σ v3 v4 v6 v8 v9 v10 v11 → K169 σ v3 v4 v6 v8 v9 v10 v11) → (∀ (σ : Sto) (v3 : Int32) (v4 : Int64) (v6 : Int64) (v8 : Int32) (v9 : Int32) (v12 : Int32), X8_learn_b250 p1 p2 K29 K74 K130 K153 K169 K250 K290 Post σ v3 v4 v6 v8 v9 v12 → K250 σ v3 v4 v6 v8 v9 v12) → (∀ (σ : Sto) (v3 : Int32) (v4 : Int64) (v6 : Int64) (v9 : Int32), X8_learn_b290 p1 p2 K29 K74 K130 K153 K169 K250 K290 Post σ v3 v4 v6 v9 → K290 σ v3 v4 v6 v9) → 
  ((p1 ≤ 0 → (Post (-2 : Int32) σ)) ∧ (¬ p1 ≤ 0 → (((2048 : Int32) ≤ p1 → (Post (-2 : Int32) σ)) ∧ (¬ (2048 : Int32) ≤ p1 → ((p2 < (1 : Int32) → (Post (-2 : Int32) σ)) ∧ (¬ p2 < (1 : Int32) → ((p2 ≤ (3 : Int32) → (K29 σ (0 : Int32) (0 : Int32))) ∧ (¬ p2 ≤ (3 : Int32) → (Post (-2 : Int32) σ)))))))))
set_option maxHeartbeats 4000000 in
set_option maxRecDepth 100000 in
theorem mtX8_learn (l : Launch) (D : va_G) (ad : Nat → Nat) (cA : Nat → ClassId) (A : Nat → Prop) (σ : Sto) (p1 : Int32) (p2 : Int32) (Post : Int32 → Sto → Prop) (hwp : X8_learn_wp σ p1 p2 Post) : Met l yX8_learn wsX8_learn ({ frames := 10, cells := 0, slots := 0, locals := 263 }) (va_Pc [.ref (ad 0), .int p1, .int p2] (stW D (tyM cA) nwM (wM ad cA) A σ)) (va_Qi Post (enW D (wM ad cA) A) A) 0 0 A := by
  refine Met.ofW (cc := cX8_learn) (maxL := 13) (ret := (some .int)) (by decide) rfl ?_
  intro p e s m args below meth c s₁ B hml hv
  obtain ⟨rfl, hA, hN, hP, hK, hD⟩ := hv
  have hx := B.exec
  have hb := B.bytes
  have hr := B.returns
  have hts := atoms_spec (ws := wsX8_learn) B.pre
  have hown : s.vm.findClass RX8 = some m.cls := findClass_of_methodNamed B.named
  have hlocks := B.notSynchronized
  have hiX8 : ∀ w ∈ wsX80, w ∈ wsX8_learn := by decide +kernel
  have hS : va_S A s.heap s.heap [] := va_S.rf
  have hl := lv_entry ([.ref (ad 0), .int p1, .int p2]) (n := 13) (Nat.le_of_ble_eq_true rfl)
  rw [lg_entry_eq]
  generalize (lg_sl ([.ref (ad 0), .int p1, .int p2]) ++ List.replicate (13 - (lg_sl ([.ref (ad 0), .int p1, .int p2])).length) Slot.unset).toArray = ls at hl ⊢
  have hl : lv_has ls 13 [(0, .ref (ad 0)), (1, .int p1), (2, .int p2)] := hl
  obtain ⟨K29, hK29⟩ : ∃ K : Sto → Int32 → Int32 → Prop, K = fun (σ : Sto) (v3 : Int32) (v4 : Int32) => ∀ (H : Heap) (locs : List Loc) (ls : Array Slot), va_P D vwCl ((wM ad cA) σ) H → va_D A ((wM ad cA) σ) → va_S A s.heap H locs → lv_has ls 13 [(0, .ref (ad 0)), (1, .int p1), (2, .int p2), (3, .int v3), (4, .int v4)] → W p l e (headSpec wsX8_learn ({ frames := 10, cells := 0, slots := 0, locals := 263 })).room s m ([.ref (ad 0), .int p1, .int p2] : List Value).toArray below meth c H locs 0 0 (MQ below (va_Qi Post (enW D (wM ad cA) A) A) ([.ref (ad 0), .int p1, .int p2] : List Value).toArray s 0 0 A) (F0 m 29 ls []) := ⟨_, rfl⟩
  obtain ⟨K74, hK74⟩ : ∃ K : Sto → Int32 → Int32 → Prop, K = fun (σ : Sto) (v3 : Int32) (v4 : Int32) => ∀ (H : Heap) (locs : List Loc) (ls : Array Slot), va_P D vwCl ((wM ad cA) σ) H → va_D A ((wM ad cA) σ) → va_S A s.heap H locs → lv_has ls 13 [(0, .ref (ad 0)), (1, .int p1), (2, .int p2), (3, .int v3), (4, .int v4)] → W p l e (headSpec wsX8_learn ({ frames := 10, cells := 0, slots := 0, locals := 263 })).room s m ([.ref (ad 0), .int p1, .int p2] : List Value).toArray below meth c H locs 0 0 (MQ below (va_Qi Post (enW D (wM ad cA) A) A) ([.ref (ad 0), .int p1, .int p2] : List Value).toArray s 0 0 A) (F0 m 74 ls []) := ⟨_, rfl⟩
  obtain ⟨K130, hK130⟩ : ∃ K : Sto → Int32 → Int64 → Int64 → Int32 → Int32 → Prop, K = fun (σ : Sto) (v3 : Int32) (v4 : Int64) (v6 : Int64) (v8 : Int32) (v9 : Int32) => ∀ (H : Heap) (locs : List Loc) (ls : Array Slot), va_P D vwCl ((wM ad cA) σ) H → va_D A ((wM ad cA) σ) → va_S A s.heap H locs → lv_has ls 13 [(0, .ref (ad 0)), (2, .int p2), (3, .int v3), (4, .long v4), (6, .long v6), (8, .int v8), (9, .int v9)] → W p l e (headSpec wsX8_learn ({ frames := 10, cells := 0, slots := 0, locals := 263 })).room s m ([.ref (ad 0), .int p1, .int p2] : List Value).toArray below meth c H locs 0 0 (MQ below (va_Qi Post (enW D (wM ad cA) A) A) ([.ref (ad 0), .int p1, .int p2] : List Value).toArray s 0 0 A) (F0 m 130 ls []) := ⟨_, rfl⟩
  obtain ⟨K153, hK153⟩ : ∃ K : Sto → Int32 → Int64 → Int64 → Int32 → Int32 → Prop, K = fun (σ : Sto) (v3 : Int32) (v4 : Int64) (v6 : Int64) (v8 : Int32) (v9 : Int32) => ∀ (H : Heap) (locs : List Loc) (ls : Array Slot), va_P D vwCl ((wM ad cA) σ) H → va_D A ((wM ad cA) σ) → va_S A s.heap H locs → lv_has ls 13 [(0, .ref (ad 0)), (2, .int p2), (3, .int v3), (4, .long v4), (6, .long v6), (8, .int v8), (9, .int v9)] → W p l e (headSpec wsX8_learn ({ frames := 10, cells := 0, slots := 0, locals := 263 })).room s m ([.ref (ad 0), .int p1, .int p2] : List Value).toArray below meth c H locs 0 0 (MQ below (va_Qi Post (enW D (wM ad cA) A) A) ([.ref (ad 0), .int p1, .int p2] : List Value).toArray s 0 0 A) (F0 m 153 ls []) := ⟨_, rfl⟩
  obtain ⟨K169, hK169⟩ : ∃ K : Sto → Int32 → Int64 → Int64 → Int32 → Int32 → Int32 → Int32 → Prop, K = fun (σ : Sto) (v3 : Int32) (v4 : Int64) (v6 : Int64) (v8 : Int32) (v9 : Int32) (v10 : Int32) (v11 : Int32) => ∀ (H : Heap) (locs : List Loc) (ls : Array Slot), va_P D vwCl ((wM ad cA) σ) H → va_D A ((wM ad cA) σ) → va_S A s.heap H locs → lv_has ls 13 [(0, .ref (ad 0)), (2, .int p2), (3, .int v3), (4, .long v4), (6, .long v6), (8, .int v8), (9, .int v9), (10, .int v10), (11, .int v11)] → W p l e (headSpec wsX8_learn ({ frames := 10, cells := 0, slots := 0, locals := 263 })).room s m ([.ref (ad 0), .int p1, .int p2] : List Value).toArray below meth c H locs 0 0 (MQ below (va_Qi Post (enW D (wM ad cA) A) A) ([.ref (ad 0), .int p1, .int p2] : List Value).toArray s 0 0 A) (F0 m 169 ls []) := ⟨_, rfl⟩
  obtain ⟨K250, hK250⟩ : ∃ K : Sto → Int32 → Int64 → Int64 → Int32 → Int32 → Int32 → Prop, K = fun (σ : Sto) (v3 : Int32) (v4 : Int64) (v6 : Int64) (v8 : Int32) (v9 : Int32) (v12 : Int32) => ∀ (H : Heap) (locs : List Loc) (ls : Array Slot), va_P D vwCl ((wM ad cA) σ) H → va_D A ((wM ad cA) σ) → va_S A s.heap H locs → lv_has ls 13 [(0, .ref (ad 0)), (2, .int p2), (3, .int v3), (4, .long v4), (6, .long v6), (8, .int v8), (9, .int v9), (12, .int v12)] → W p l e (headSpec wsX8_learn ({ frames := 10, cells := 0, slots := 0, locals := 263 })).room s m ([.ref (ad 0), .int p1, .int p2] : List Value).toArray below meth c H locs 0 0 (MQ below (va_Qi Post (enW D (wM ad cA) A) A) ([.ref (ad 0), .int p1, .int p2] : List Value).toArray s 0 0 A) (F0 m 250 ls []) := ⟨_, rfl⟩
  obtain ⟨K290, hK290⟩ : ∃ K : Sto → Int32 → Int64 → Int64 → Int32 → Prop, K = fun (σ : Sto) (v3 : Int32) (v4 : Int64) (v6 : Int64) (v9 : Int32) => ∀ (H : Heap) (locs : List Loc) (ls : Array Slot), va_P D vwCl ((wM ad cA) σ) H → va_D A ((wM ad cA) σ) → va_S A s.heap H locs → lv_has ls 13 [(0, .ref (ad 0)), (3, .int v3), (4, .long v4), (6, .long v6), (9, .int v9)] → W p l e (headSpec wsX8_learn ({ frames := 10, cells := 0, slots := 0, locals := 263 })).room s m ([.ref (ad 0), .int p1, .int p2] : List Value).toArray below meth c H locs 0 0 (MQ below (va_Qi Post (enW D (wM ad cA) A) A) ([.ref (ad 0), .int p1, .int p2] : List Value).toArray s 0 0 A) (F0 m 290 ls []) := ⟨_, rfl⟩
  have hk29 : ∀ (σ : Sto) (v3 : Int32) (v4 : Int32), X8_learn_b29 p1 p2 K29 K74 K130 K153 K169 K250 K290 Post σ v3 v4 → K29 σ v3 v4 := by
    intro σ v3 v4 hq
    rw [hK29]
    intro H locs ls hP hD hS hl
    unfold X8_learn_b29 at hq
    refine lv_iload hx hb dX8_learn_29 (lv_at hl 4 rfl) ?_
    refine lv_bipush (v := (11 : Int32)) hx hb dX8_learn_31 (by decide) ?_
    refine lv_icmp_ge (tgt := 51) hx hb dX8_learn_33 (by decide) (fun hc => ?_) (fun hc => ?_)
    · have hq := hq.1 hc
      refine lv_iload_n hx hb dX8_learn_51 rfl (lv_at hl 3 rfl) ?_
      refine lv_iconst (v := (3 : Int32)) hx hb dX8_learn_52 (by decide) ?_
      refine lv_icmp_le (tgt := 59) hx hb dX8_learn_53 (by decide) (fun hc => ?_) (fun hc => ?_)
      · have hq := hq.1 hc
        refine lv_aload_n hx hb dX8_learn_59 rfl (lv_at hl 0 rfl) ?_
        refine w_calli (va_runV (As := []) (rest := []) ⟨hx, hb, hml, hown, hts⟩ (mtX8_parted l D ad cA A σ  _ hq) (cwV 0 hts gX8_learn_X8_parted rfl rfl rfl (by decide +kernel) ⟨Nat.le_of_ble_eq_true rfl, Nat.le_of_ble_eq_true rfl⟩) ⟨stW_blind nwM_ok, va_recv hK hP (ci := 8) (q0 := 0) rfl wMg0, stW_pass hA hS hN hK hP hD nwM_ok⟩ rfl rfl hl.1 rfl (lv_room (Nat.le_of_ble_eq_true rfl)) dX8_learn_60 ⟨Nat.le_of_ble_eq_true rfl, Nat.le_of_ble_eq_true rfl⟩) hS (fun r1 σ1 H locs hq hP hD hS => ?_)
        refine lv_if_ne (tgt := 69) hx hb dX8_learn_63 (by decide) (fun hc => ?_) (fun hc => ?_)
        · have hq := hq.1 hc
          refine lv_iconst (v := (0 : Int32)) hx hb dX8_learn_69 (by decide) ?_
          refine lv_istore_n (lv' := [(3, .int (0 : Int32)), (0, .ref (ad 0)), (1, .int p1), (2, .int p2), (4, .int v4)]) hx hb dX8_learn_70 rfl hl (by decide) rfl (fun ls hl => ?_)
          refine lv_iconst (v := (0 : Int32)) hx hb dX8_learn_71 (by decide) ?_
          refine lv_istore (lv' := [(4, .int (0 : Int32)), (3, .int (0 : Int32)), (0, .ref (ad 0)), (1, .int p1), (2, .int p2)]) hx hb dX8_learn_72 hl (by decide) rfl (fun ls hl => ?_)
          rw [hK74] at hq
          exact hq _ _ _ hP hD hS (lv_sub hl [2, 3, 4, 1, 0] rfl)
        · have hq := hq.2 hc
          refine lv_bipush (v := (-3 : Int32)) hx hb dX8_learn_66 (by decide) ?_
          exact W.iret (v := (-3 : Int32)) hx hb hr (fun t ht hW => ⟨⟨(-3 : Int32), σ1, rfl, hq, by rw [ht]; exact hP, hD⟩, hS.F ht⟩) hS.2.2 dX8_learn_68
      · have hq := hq.2 hc
        refine lv_bipush (v := (-2 : Int32)) hx hb dX8_learn_56 (by decide) ?_
        exact W.iret (v := (-2 : Int32)) hx hb hr (fun t ht hW => ⟨⟨(-2 : Int32), σ, rfl, hq, by rw [ht]; exact hP, hD⟩, hS.F ht⟩) hS.2.2 dX8_learn_58
    · have hq := hq.2 hc
      refine lv_iload_n hx hb dX8_learn_36 rfl (lv_at hl 3 rfl) ?_
      refine lv_iload_n hx hb dX8_learn_37 rfl (lv_at hl 1 rfl) ?_
      refine lv_iload hx hb dX8_learn_38 (lv_at hl 4 rfl) ?_
      refine lv_ishr hx hb dX8_learn_40 ?_
      refine lv_iconst (v := (1 : Int32)) hx hb dX8_learn_41 (by decide) ?_
      refine lv_iand hx hb dX8_learn_42 ?_
      refine lv_iadd hx hb dX8_learn_43 ?_
      refine lv_istore_n (lv' := [(3, .int (v3 + ((p1 >>> (v4 &&& 31)) &&& (1 : Int32)))), (0, .ref (ad 0)), (1, .int p1), (2, .int p2), (4, .int v4)]) hx hb dX8_learn_44 rfl hl (by decide) rfl (fun ls hl => ?_)
      refine lv_iinc (v := (v4 + (1 : Int32))) (lv' := [(4, .int (v4 + (1 : Int32))), (3, .int (v3 + ((p1 >>> (v4 &&& 31)) &&& (1 : Int32)))), (0, .ref (ad 0)), (1, .int p1), (2, .int p2)]) hx hb dX8_learn_45 hl (k := 4) rfl (by rfl) (by decide) rfl (fun ls hl => ?_)
      refine lv_goto (tgt := 29) hx hb dX8_learn_48 (by decide) ?_
      rw [hK29] at hq
      exact hq _ _ _ hP hD hS (lv_sub hl [2, 3, 4, 1, 0] rfl)
  have hk74 : ∀ (σ : Sto) (v3 : Int32) (v4 : Int32), X8_learn_b74 p1 p2 K29 K74 K130 K153 K169 K250 K290 Post σ v3 v4 → K74 σ v3 v4 := by
    intro σ v3 v4 hq
    rw [hK74]
    intro H locs ls hP hD hS hl
    unfold X8_learn_b74 at hq
    refine lv_iload hx hb dX8_learn_74 (lv_at hl 4 rfl) ?_
    refine lv_bipush (v := (11 : Int32)) hx hb dX8_learn_76 (by decide) ?_
    refine lv_icmp_ge (tgt := 116) hx hb dX8_learn_78 (by decide) (fun hc => ?_) (fun hc => ?_)
    · have hq := hq.1 hc
      refine lv_ldc2 (v := (-1 : Int64)) hx hb hown (hts (.constantLong RX8 222 (-1)) (List.mem_of_getElem? (i := 3) rfl)) dX8_learn_116 ?_
      refine lv_lstore (lv' := [(4, .long (-1 : Int64)), (0, .ref (ad 0)), (1, .int p1), (2, .int p2), (3, .int v3)]) hx hb dX8_learn_119 hl (by decide) rfl (fun ls hl => ?_)
      refine lv_lconst (v := (1 : Int64)) hx hb dX8_learn_121 (by decide) ?_
      refine lv_lstore (lv' := [(6, .long (1 : Int64)), (4, .long (-1 : Int64)), (0, .ref (ad 0)), (1, .int p1), (2, .int p2), (3, .int v3)]) hx hb dX8_learn_122 hl (by decide) rfl (fun ls hl => ?_)
      refine lv_iconst (v := (1 : Int32)) hx hb dX8_learn_124 (by decide) ?_
      refine lv_istore (lv' := [(8, .int (1 : Int32)), (6, .long (1 : Int64)), (4, .long (-1 : Int64)), (0, .ref (ad 0)), (1, .int p1), (2, .int p2), (3, .int v3)]) hx hb dX8_learn_125 hl (by decide) rfl (fun ls hl => ?_)
      refine lv_iconst (v := (0 : Int32)) hx hb dX8_learn_127 (by decide) ?_
      refine lv_istore (lv' := [(9, .int (0 : Int32)), (8, .int (1 : Int32)), (6, .long (1 : Int64)), (4, .long (-1 : Int64)), (0, .ref (ad 0)), (1, .int p1), (2, .int p2), (3, .int v3)]) hx hb dX8_learn_128 hl (by decide) rfl (fun ls hl => ?_)
      rw [hK130] at hq
      exact hq _ _ _ hP hD hS (lv_sub hl [4, 6, 7, 3, 2, 1, 0] rfl)
    · have hq := hq.2 hc
      refine lv_aload_n hx hb dX8_learn_81 rfl (lv_at hl 0 rfl) ?_
      refine va_get (D := D) (ci := 8) (v := .ref (ad 7)) (C := RX8) (T := TX8) (N := 32) hx hb hts hiX8 hown hK hP 0 wMg0 rfl 9 (by decide) (hts (.fieldLink RX8 33 "ArcGuesserModel" "weights" "[I") (List.mem_of_getElem? (i := 1) rfl)) (fun _ h9 => h9) rfl dX8_learn_82 ?_
      refine lv_iload hx hb dX8_learn_85 (lv_at hl 4 rfl) ?_
      refine lv_iconst (v := (0 : Int32)) hx hb dX8_learn_87 (by decide) ?_
      refine va_iast hx hb hK hP hD hS 7 0 wMg7 rfl hq.1 dX8_learn_88 (fun H locs hP hD hS => ?_)
      have hP := wMsP7 hP
      have hD := wMsD7 hD
      have hq := hq.2
      refine lv_iload_n hx hb dX8_learn_89 rfl (lv_at hl 1 rfl) ?_
      refine lv_iload hx hb dX8_learn_90 (lv_at hl 4 rfl) ?_
      refine lv_ishr hx hb dX8_learn_92 ?_
      refine lv_iconst (v := (1 : Int32)) hx hb dX8_learn_93 (by decide) ?_
      refine lv_iand hx hb dX8_learn_94 ?_
      refine lv_iconst (v := (1 : Int32)) hx hb dX8_learn_95 (by decide) ?_
      refine lv_icmp_ne (tgt := 110) hx hb dX8_learn_96 (by decide) (fun hc => ?_) (fun hc => ?_)
      · have hq := hq.1 hc
        refine lv_iinc (v := (v4 + (1 : Int32))) (lv' := [(4, .int (v4 + (1 : Int32))), (0, .ref (ad 0)), (1, .int p1), (2, .int p2), (3, .int v3)]) hx hb dX8_learn_110 hl (k := 4) rfl (by rfl) (by decide) rfl (fun ls hl => ?_)
        refine lv_goto (tgt := 74) hx hb dX8_learn_113 (by decide) ?_
        rw [hK74] at hq
        exact hq _ _ _ hP hD hS (lv_sub hl [1, 2, 3, 4, 0] rfl)
      · have hq := hq.2 hc
        refine lv_aload_n hx hb dX8_learn_99 rfl (lv_at hl 0 rfl) ?_
        refine va_get (D := D) (ci := 8) (v := .ref (ad 18)) (C := RX8) (T := TX8) (N := 32) hx hb hts hiX8 hown hK hP 0 wMg0 rfl 30 (by decide) (hts (.fieldLink RX8 80 "ArcGuesserModel" "which" "[I") (List.mem_of_getElem? (i := 2) rfl)) (fun _ h9 => h9) rfl dX8_learn_100 ?_
        refine lv_iload_n hx hb dX8_learn_103 rfl (lv_at hl 3 rfl) ?_
        refine lv_iload hx hb dX8_learn_104 (lv_at hl 4 rfl) ?_
        refine va_iast hx hb hK hP hD hS 18 0 wMg18 rfl hq.1 dX8_learn_106 (fun H locs hP hD hS => ?_)
        have hP := wMsP18 hP
        have hD := wMsD18 hD
        have hq := hq.2
        refine lv_iinc (v := (v3 + (1 : Int32))) (lv' := [(3, .int (v3 + (1 : Int32))), (0, .ref (ad 0)), (1, .int p1), (2, .int p2), (4, .int v4)]) hx hb dX8_learn_107 hl (k := 3) rfl (by rfl) (by decide) rfl (fun ls hl => ?_)
        refine lv_iinc (v := (v4 + (1 : Int32))) (lv' := [(4, .int (v4 + (1 : Int32))), (3, .int (v3 + (1 : Int32))), (0, .ref (ad 0)), (1, .int p1), (2, .int p2)]) hx hb dX8_learn_110 hl (k := 4) rfl (by rfl) (by decide) rfl (fun ls hl => ?_)
        refine lv_goto (tgt := 74) hx hb dX8_learn_113 (by decide) ?_
        rw [hK74] at hq
        exact hq _ _ _ hP hD hS (lv_sub hl [2, 3, 4, 1, 0] rfl)
  have hk130 : ∀ (σ : Sto) (v3 : Int32) (v4 : Int64) (v6 : Int64) (v8 : Int32) (v9 : Int32), X8_learn_b130 p1 p2 K29 K74 K130 K153 K169 K250 K290 Post σ v3 v4 v6 v8 v9 → K130 σ v3 v4 v6 v8 v9 := by
    intro σ v3 v4 v6 v8 v9 hq
    rw [hK130]
    intro H locs ls hP hD hS hl
    unfold X8_learn_b130 at hq
    refine lv_iload hx hb dX8_learn_130 (lv_at hl 6 rfl) ?_
    refine lv_iload_n hx hb dX8_learn_132 rfl (lv_at hl 2 rfl) ?_
    refine lv_icmp_ge (tgt := 150) hx hb dX8_learn_133 (by decide) (fun hc => ?_) (fun hc => ?_)
    · have hq := hq.1 hc
      refine lv_iconst (v := (0 : Int32)) hx hb dX8_learn_150 (by decide) ?_
      refine lv_istore (lv' := [(9, .int (0 : Int32)), (0, .ref (ad 0)), (2, .int p2), (3, .int v3), (4, .long v4), (6, .long v6), (8, .int v8)]) hx hb dX8_learn_151 hl (by decide) rfl (fun ls hl => ?_)
      rw [hK153] at hq
      exact hq _ _ _ hP hD hS (lv_sub hl [1, 2, 3, 4, 5, 6, 0] rfl)
    · have hq := hq.2 hc
      refine lv_iload hx hb dX8_learn_136 (lv_at hl 5 rfl) ?_
      refine lv_iload_n hx hb dX8_learn_138 rfl (lv_at hl 1 rfl) ?_
      refine lv_iconst (v := (1 : Int32)) hx hb dX8_learn_139 (by decide) ?_
      refine lv_iadd hx hb dX8_learn_140 ?_
      refine lv_imul hx hb dX8_learn_141 ?_
      refine lv_istore (lv' := [(8, .int (v8 * (p2 + (1 : Int32)))), (0, .ref (ad 0)), (2, .int p2), (3, .int v3), (4, .long v4), (6, .long v6), (9, .int v9)]) hx hb dX8_learn_142 hl (by decide) rfl (fun ls hl => ?_)
      refine lv_iinc (v := (v9 + (1 : Int32))) (lv' := [(9, .int (v9 + (1 : Int32))), (8, .int (v8 * (p2 + (1 : Int32)))), (0, .ref (ad 0)), (2, .int p2), (3, .int v3), (4, .long v4), (6, .long v6)]) hx hb dX8_learn_144 hl (k := 6) rfl (by rfl) (by decide) rfl (fun ls hl => ?_)
      refine lv_goto (tgt := 130) hx hb dX8_learn_147 (by decide) ?_
      rw [hK130] at hq
      exact hq _ _ _ hP hD hS (lv_sub hl [2, 3, 4, 5, 6, 1, 0] rfl)
  have hk153 : ∀ (σ : Sto) (v3 : Int32) (v4 : Int64) (v6 : Int64) (v8 : Int32) (v9 : Int32), X8_learn_b153 p1 p2 K29 K74 K130 K153 K169 K250 K290 Post σ v3 v4 v6 v8 v9 → K153 σ v3 v4 v6 v8 v9 := by
    intro σ v3 v4 v6 v8 v9 hq
    rw [hK153]
    intro H locs ls hP hD hS hl
    unfold X8_learn_b153 at hq
    refine lv_iload hx hb dX8_learn_153 (lv_at hl 6 rfl) ?_
    refine lv_iload hx hb dX8_learn_155 (lv_at hl 5 rfl) ?_
    refine lv_icmp_ge (tgt := 287) hx hb dX8_learn_157 (by decide) (fun hc => ?_) (fun hc => ?_)
    · have hq := hq.1 hc
      refine lv_iconst (v := (0 : Int32)) hx hb dX8_learn_287 (by decide) ?_
      refine lv_istore (lv' := [(9, .int (0 : Int32)), (0, .ref (ad 0)), (2, .int p2), (3, .int v3), (4, .long v4), (6, .long v6), (8, .int v8)]) hx hb dX8_learn_288 hl (by decide) rfl (fun ls hl => ?_)
      rw [hK290] at hq
      exact hq _ _ _ hP hD hS (lv_sub hl [1, 3, 4, 5, 0] rfl)
    · have hq := hq.2 hc
      refine lv_iload hx hb dX8_learn_160 (lv_at hl 6 rfl) ?_
      refine lv_istore (lv' := [(10, .int v9), (0, .ref (ad 0)), (2, .int p2), (3, .int v3), (4, .long v4), (6, .long v6), (8, .int v8), (9, .int v9)]) hx hb dX8_learn_162 hl (by decide) rfl (fun ls hl => ?_)
      refine lv_iload_n hx hb dX8_learn_164 rfl (lv_at hl 3 rfl) ?_
      refine lv_iconst (v := (1 : Int32)) hx hb dX8_learn_165 (by decide) ?_
      refine lv_isub hx hb dX8_learn_166 ?_
      refine lv_istore (lv' := [(11, .int (v3 - (1 : Int32))), (10, .int v9), (0, .ref (ad 0)), (2, .int p2), (3, .int v3), (4, .long v4), (6, .long v6), (8, .int v8), (9, .int v9)]) hx hb dX8_learn_167 hl (by decide) rfl (fun ls hl => ?_)
      rw [hK169] at hq
      exact hq _ _ _ hP hD hS (lv_sub hl [2, 3, 4, 5, 6, 7, 8, 1, 0] rfl)
  have hk169 : ∀ (σ : Sto) (v3 : Int32) (v4 : Int64) (v6 : Int64) (v8 : Int32) (v9 : Int32) (v10 : Int32) (v11 : Int32), X8_learn_b169 p1 p2 K29 K74 K130 K153 K169 K250 K290 Post σ v3 v4 v6 v8 v9 v10 v11 → K169 σ v3 v4 v6 v8 v9 v10 v11 := by
    intro σ v3 v4 v6 v8 v9 v10 v11 hq
    rw [hK169]
    intro H locs ls hP hD hS hl
    unfold X8_learn_b169 at hq
    refine lv_iload hx hb dX8_learn_169 (lv_at hl 8 rfl) ?_
    refine lv_if_lt (tgt := 206) hx hb dX8_learn_171 (by decide) (fun hc => ?_) (fun hc => ?_)
    · have hq := hq.1 hc
      refine lv_aload_n hx hb dX8_learn_206 rfl (lv_at hl 0 rfl) ?_
      refine w_calli (va_runV (As := []) (rest := []) ⟨hx, hb, hml, hown, hts⟩ (mtX8_shares l D ad cA A σ  _ hq) (cwV 0 hts gX8_learn_X8_shares rfl rfl rfl (by decide +kernel) ⟨Nat.le_of_ble_eq_true rfl, Nat.le_of_ble_eq_true rfl⟩) ⟨stW_blind nwM_ok, va_recv hK hP (ci := 8) (q0 := 0) rfl wMg0, stW_pass hA hS hN hK hP hD nwM_ok⟩ rfl rfl hl.1 rfl (lv_room (Nat.le_of_ble_eq_true rfl)) dX8_learn_207 ⟨Nat.le_of_ble_eq_true rfl, Nat.le_of_ble_eq_true rfl⟩) hS (fun r1 σ1 H locs hq hP hD hS => ?_)
      refine lv_istore (lv' := [(11, .int r1), (0, .ref (ad 0)), (2, .int p2), (3, .int v3), (4, .long v4), (6, .long v6), (8, .int v8), (9, .int v9), (10, .int v10)]) hx hb dX8_learn_210 hl (by decide) rfl (fun ls hl => ?_)
      refine lv_iload hx hb dX8_learn_212 (lv_at hl 0 rfl) ?_
      refine lv_if_eq (tgt := 281) hx hb dX8_learn_214 (by decide) (fun hc => ?_) (fun hc => ?_)
      · have hq := hq.1 hc
        refine lv_iinc (v := (v9 + (1 : Int32))) (lv' := [(9, .int (v9 + (1 : Int32))), (11, .int r1), (0, .ref (ad 0)), (2, .int p2), (3, .int v3), (4, .long v4), (6, .long v6), (8, .int v8), (10, .int v10)]) hx hb dX8_learn_281 hl (k := 7) rfl (by rfl) (by decide) rfl (fun ls hl => ?_)
        refine lv_goto (tgt := 153) hx hb dX8_learn_284 (by decide) ?_
        rw [hK153] at hq
        exact hq _ _ _ hP hD hS (lv_sub hl [2, 3, 4, 5, 6, 7, 0] rfl)
      · have hq := hq.2 hc
        refine lv_aload_n hx hb dX8_learn_217 rfl (lv_at hl 1 rfl) ?_
        refine va_get (D := D) (ci := 8) (v := .long (σ1.2 0 19)) (C := RX8) (T := TX8) (N := 32) hx hb hts hiX8 hown hK hP 0 wMg0 rfl 19 (by decide) (hts (.fieldLink RX8 136 "ArcGuesserModel" "top" "J") (List.mem_of_getElem? (i := 4) rfl)) (fun _ h9 => h9) rfl dX8_learn_218 ?_
        refine lv_lload hx hb dX8_learn_221 (lv_at hl 5 rfl) ?_
        refine lv_lmul hx hb dX8_learn_223 ?_
        refine lv_lload hx hb dX8_learn_224 (lv_at hl 4 rfl) ?_
        refine lv_aload_n hx hb dX8_learn_226 rfl (lv_at hl 1 rfl) ?_
        refine va_get (D := D) (ci := 8) (v := .long (σ1.2 0 20)) (C := RX8) (T := TX8) (N := 32) hx hb hts hiX8 hown hK hP 0 wMg0 rfl 20 (by decide) (hts (.fieldLink RX8 139 "ArcGuesserModel" "bottom" "J") (List.mem_of_getElem? (i := 5) rfl)) (fun _ h9 => h9) rfl dX8_learn_227 ?_
        refine lv_lmul hx hb dX8_learn_230 ?_
        refine W.lcmp hx hb dX8_learn_231 ?_
        refine lv_if_le (tgt := 281) hx hb dX8_learn_232 (by decide) (fun hc => ?_) (fun hc => ?_)
        · have hq := hq.1 hc
          refine lv_iinc (v := (v9 + (1 : Int32))) (lv' := [(9, .int (v9 + (1 : Int32))), (11, .int r1), (0, .ref (ad 0)), (2, .int p2), (3, .int v3), (4, .long v4), (6, .long v6), (8, .int v8), (10, .int v10)]) hx hb dX8_learn_281 hl (k := 7) rfl (by rfl) (by decide) rfl (fun ls hl => ?_)
          refine lv_goto (tgt := 153) hx hb dX8_learn_284 (by decide) ?_
          rw [hK153] at hq
          exact hq _ _ _ hP hD hS (lv_sub hl [2, 3, 4, 5, 6, 7, 0] rfl)
        · have hq := hq.2 hc
          refine lv_aload_n hx hb dX8_learn_235 rfl (lv_at hl 1 rfl) ?_
          refine va_get (D := D) (ci := 8) (v := .long (σ1.2 0 19)) (C := RX8) (T := TX8) (N := 32) hx hb hts hiX8 hown hK hP 0 wMg0 rfl 19 (by decide) (hts (.fieldLink RX8 136 "ArcGuesserModel" "top" "J") (List.mem_of_getElem? (i := 4) rfl)) (fun _ h9 => h9) rfl dX8_learn_236 ?_
          refine lv_lstore (lv' := [(4, .long (σ1.2 0 19)), (11, .int r1), (0, .ref (ad 0)), (2, .int p2), (3, .int v3), (6, .long v6), (8, .int v8), (9, .int v9), (10, .int v10)]) hx hb dX8_learn_239 hl (by decide) rfl (fun ls hl => ?_)
          refine lv_aload_n hx hb dX8_learn_241 rfl (lv_at hl 2 rfl) ?_
          refine va_get (D := D) (ci := 8) (v := .long (σ1.2 0 20)) (C := RX8) (T := TX8) (N := 32) hx hb hts hiX8 hown hK hP 0 wMg0 rfl 20 (by decide) (hts (.fieldLink RX8 139 "ArcGuesserModel" "bottom" "J") (List.mem_of_getElem? (i := 5) rfl)) (fun _ h9 => h9) rfl dX8_learn_242 ?_
          refine lv_lstore (lv' := [(6, .long (σ1.2 0 20)), (4, .long (σ1.2 0 19)), (11, .int r1), (0, .ref (ad 0)), (2, .int p2), (3, .int v3), (8, .int v8), (9, .int v9), (10, .int v10)]) hx hb dX8_learn_245 hl (by decide) rfl (fun ls hl => ?_)
          refine lv_iconst (v := (0 : Int32)) hx hb dX8_learn_247 (by decide) ?_
          refine lv_istore (lv' := [(12, .int (0 : Int32)), (6, .long (σ1.2 0 20)), (4, .long (σ1.2 0 19)), (11, .int r1), (0, .ref (ad 0)), (2, .int p2), (3, .int v3), (8, .int v8), (9, .int v9), (10, .int v10)]) hx hb dX8_learn_248 hl (by decide) rfl (fun ls hl => ?_)
          rw [hK250] at hq
          exact hq _ _ _ hP hD hS (lv_sub hl [4, 5, 6, 2, 1, 7, 8, 0] rfl)
    · have hq := hq.2 hc
      refine lv_aload_n hx hb dX8_learn_174 rfl (lv_at hl 0 rfl) ?_
      refine va_get (D := D) (ci := 8) (v := .ref (ad 7)) (C := RX8) (T := TX8) (N := 32) hx hb hts hiX8 hown hK hP 0 wMg0 rfl 9 (by decide) (hts (.fieldLink RX8 33 "ArcGuesserModel" "weights" "[I") (List.mem_of_getElem? (i := 1) rfl)) (fun _ h9 => h9) rfl dX8_learn_175 ?_
      refine lv_aload_n hx hb dX8_learn_178 rfl (lv_at hl 0 rfl) ?_
      refine va_get (D := D) (ci := 8) (v := .ref (ad 18)) (C := RX8) (T := TX8) (N := 32) hx hb hts hiX8 hown hK hP 0 wMg0 rfl 30 (by decide) (hts (.fieldLink RX8 80 "ArcGuesserModel" "which" "[I") (List.mem_of_getElem? (i := 2) rfl)) (fun _ h9 => h9) rfl dX8_learn_179 ?_
      refine lv_iload hx hb dX8_learn_182 (lv_at hl 8 rfl) ?_
      refine va_iald hx hb hK hP 18 0 wMg18 rfl hq.1 dX8_learn_184 ?_
      have hq := hq.2
      refine lv_iload hx hb dX8_learn_185 (lv_at hl 7 rfl) ?_
      refine lv_iload_n hx hb dX8_learn_187 rfl (lv_at hl 1 rfl) ?_
      refine lv_iconst (v := (1 : Int32)) hx hb dX8_learn_188 (by decide) ?_
      refine lv_iadd hx hb dX8_learn_189 ?_
      refine lv_irem hx hb dX8_learn_190 hq.1 ?_
      have hq := hq.2
      refine va_iast hx hb hK hP hD hS 7 0 wMg7 rfl hq.1 dX8_learn_191 (fun H locs hP hD hS => ?_)
      have hP := wMsP7 hP
      have hD := wMsD7 hD
      have hq := hq.2
      refine lv_iload hx hb dX8_learn_192 (lv_at hl 7 rfl) ?_
      refine lv_iload_n hx hb dX8_learn_194 rfl (lv_at hl 1 rfl) ?_
      refine lv_iconst (v := (1 : Int32)) hx hb dX8_learn_195 (by decide) ?_
      refine lv_iadd hx hb dX8_learn_196 ?_
      refine lv_idiv hx hb dX8_learn_197 hq.1 ?_
      have hq := hq.2
      refine lv_istore (lv' := [(10, .int (v10 / (p2 + (1 : Int32)))), (0, .ref (ad 0)), (2, .int p2), (3, .int v3), (4, .long v4), (6, .long v6), (8, .int v8), (9, .int v9), (11, .int v11)]) hx hb dX8_learn_198 hl (by decide) rfl (fun ls hl => ?_)
      refine lv_iinc (v := (v11 + (-1 : Int32))) (lv' := [(11, .int (v11 + (-1 : Int32))), (10, .int (v10 / (p2 + (1 : Int32)))), (0, .ref (ad 0)), (2, .int p2), (3, .int v3), (4, .long v4), (6, .long v6), (8, .int v8), (9, .int v9)]) hx hb dX8_learn_200 hl (k := 8) rfl (by rfl) (by decide) rfl (fun ls hl => ?_)
      refine lv_goto (tgt := 169) hx hb dX8_learn_203 (by decide) ?_
      rw [hK169] at hq
      exact hq _ _ _ hP hD hS (lv_sub hl [2, 3, 4, 5, 6, 7, 8, 1, 0] rfl)
  have hk250 : ∀ (σ : Sto) (v3 : Int32) (v4 : Int64) (v6 : Int64) (v8 : Int32) (v9 : Int32) (v12 : Int32), X8_learn_b250 p1 p2 K29 K74 K130 K153 K169 K250 K290 Post σ v3 v4 v6 v8 v9 v12 → K250 σ v3 v4 v6 v8 v9 v12 := by
    intro σ v3 v4 v6 v8 v9 v12 hq
    rw [hK250]
    intro H locs ls hP hD hS hl
    unfold X8_learn_b250 at hq
    refine lv_iload hx hb dX8_learn_250 (lv_at hl 7 rfl) ?_
    refine lv_iload_n hx hb dX8_learn_252 rfl (lv_at hl 2 rfl) ?_
    refine lv_icmp_ge (tgt := 281) hx hb dX8_learn_253 (by decide) (fun hc => ?_) (fun hc => ?_)
    · have hq := hq.1 hc
      refine lv_iinc (v := (v9 + (1 : Int32))) (lv' := [(9, .int (v9 + (1 : Int32))), (0, .ref (ad 0)), (2, .int p2), (3, .int v3), (4, .long v4), (6, .long v6), (8, .int v8), (12, .int v12)]) hx hb dX8_learn_281 hl (k := 6) rfl (by rfl) (by decide) rfl (fun ls hl => ?_)
      refine lv_goto (tgt := 153) hx hb dX8_learn_284 (by decide) ?_
      rw [hK153] at hq
      exact hq _ _ _ hP hD hS (lv_sub hl [1, 2, 3, 4, 5, 6, 0] rfl)
    · have hq := hq.2 hc
      refine lv_aload_n hx hb dX8_learn_256 rfl (lv_at hl 0 rfl) ?_
      refine va_get (D := D) (ci := 8) (v := .ref (ad 19)) (C := RX8) (T := TX8) (N := 32) hx hb hts hiX8 hown hK hP 0 wMg0 rfl 31 (by decide) (hts (.fieldLink RX8 83 "ArcGuesserModel" "best" "[I") (List.mem_of_getElem? (i := 6) rfl)) (fun _ h9 => h9) rfl dX8_learn_257 ?_
      refine lv_iload hx hb dX8_learn_260 (lv_at hl 7 rfl) ?_
      refine lv_aload_n hx hb dX8_learn_262 rfl (lv_at hl 0 rfl) ?_
      refine va_get (D := D) (ci := 8) (v := .ref (ad 7)) (C := RX8) (T := TX8) (N := 32) hx hb hts hiX8 hown hK hP 0 wMg0 rfl 9 (by decide) (hts (.fieldLink RX8 33 "ArcGuesserModel" "weights" "[I") (List.mem_of_getElem? (i := 1) rfl)) (fun _ h9 => h9) rfl dX8_learn_263 ?_
      refine lv_aload_n hx hb dX8_learn_266 rfl (lv_at hl 0 rfl) ?_
      refine va_get (D := D) (ci := 8) (v := .ref (ad 18)) (C := RX8) (T := TX8) (N := 32) hx hb hts hiX8 hown hK hP 0 wMg0 rfl 30 (by decide) (hts (.fieldLink RX8 80 "ArcGuesserModel" "which" "[I") (List.mem_of_getElem? (i := 2) rfl)) (fun _ h9 => h9) rfl dX8_learn_267 ?_
      refine lv_iload hx hb dX8_learn_270 (lv_at hl 7 rfl) ?_
      refine va_iald hx hb hK hP 18 0 wMg18 rfl hq.1 dX8_learn_272 ?_
      have hq := hq.2
      refine va_iald hx hb hK hP 7 0 wMg7 rfl hq.1 dX8_learn_273 ?_
      have hq := hq.2
      refine va_iast hx hb hK hP hD hS 19 0 wMg19 rfl hq.1 dX8_learn_274 (fun H locs hP hD hS => ?_)
      have hP := wMsP19 hP
      have hD := wMsD19 hD
      have hq := hq.2
      refine lv_iinc (v := (v12 + (1 : Int32))) (lv' := [(12, .int (v12 + (1 : Int32))), (0, .ref (ad 0)), (2, .int p2), (3, .int v3), (4, .long v4), (6, .long v6), (8, .int v8), (9, .int v9)]) hx hb dX8_learn_275 hl (k := 7) rfl (by rfl) (by decide) rfl (fun ls hl => ?_)
      refine lv_goto (tgt := 250) hx hb dX8_learn_278 (by decide) ?_
      rw [hK250] at hq
      exact hq _ _ _ hP hD hS (lv_sub hl [1, 2, 3, 4, 5, 6, 7, 0] rfl)
  have hk290 : ∀ (σ : Sto) (v3 : Int32) (v4 : Int64) (v6 : Int64) (v9 : Int32), X8_learn_b290 p1 p2 K29 K74 K130 K153 K169 K250 K290 Post σ v3 v4 v6 v9 → K290 σ v3 v4 v6 v9 := by
    intro σ v3 v4 v6 v9 hq
    rw [hK290]
    intro H locs ls hP hD hS hl
    unfold X8_learn_b290 at hq
    refine lv_iload hx hb dX8_learn_290 (lv_at hl 4 rfl) ?_
    refine lv_iload_n hx hb dX8_learn_292 rfl (lv_at hl 1 rfl) ?_
    refine lv_icmp_ge (tgt := 321) hx hb dX8_learn_293 (by decide) (fun hc => ?_) (fun hc => ?_)
    · have hq := hq.1 hc
      refine lv_aload_n hx hb dX8_learn_321 rfl (lv_at hl 0 rfl) ?_
      refine lv_lload hx hb dX8_learn_322 (lv_at hl 2 rfl) ?_
      refine va_put (D := D) (ci := 8) (v := .long v4) (ty := .long) (C := RX8) (T := TX8) (N := 32) hx hb hts hiX8 tyX8 tyX8_ok nmX8 hown hK hP hD hS 0 wMg0 rfl 16 (by decide) (hts (.fieldLink RX8 95 "ArcGuesserModel" "boardTop" "J") (List.mem_of_getElem? (i := 7) rfl)) (fun _ h9 => h9) rfl (by decide +kernel) rfl rfl (Nat.le_of_ble_eq_true rfl) dX8_learn_324 (fun H locs hP hD hS => ?_)
      have hP := wMfP0_16 hP
      have hD := wMfD0_16 hD
      refine lv_aload_n hx hb dX8_learn_327 rfl (lv_at hl 0 rfl) ?_
      refine lv_lload hx hb dX8_learn_328 (lv_at hl 3 rfl) ?_
      refine va_put (D := D) (ci := 8) (v := .long v6) (ty := .long) (C := RX8) (T := TX8) (N := 32) hx hb hts hiX8 tyX8 tyX8_ok nmX8 hown hK hP hD hS 0 wMg0 rfl 17 (by decide) (hts (.fieldLink RX8 55 "ArcGuesserModel" "boardBottom" "J") (List.mem_of_getElem? (i := 8) rfl)) (fun _ h9 => h9) rfl (by decide +kernel) rfl rfl (Nat.le_of_ble_eq_true rfl) dX8_learn_330 (fun H locs hP hD hS => ?_)
      have hP := wMfP0_17 hP
      have hD := wMfD0_17 hD
      refine lv_iconst (v := (1 : Int32)) hx hb dX8_learn_333 (by decide) ?_
      exact W.iret (v := (1 : Int32)) hx hb hr (fun t ht hW => ⟨⟨(1 : Int32), (sJ (sJ σ 0 16 v4) 0 17 v6), rfl, hq, by rw [ht]; exact hP, hD⟩, hS.F ht⟩) hS.2.2 dX8_learn_334
    · have hq := hq.2 hc
      refine lv_aload_n hx hb dX8_learn_296 rfl (lv_at hl 0 rfl) ?_
      refine va_get (D := D) (ci := 8) (v := .ref (ad 7)) (C := RX8) (T := TX8) (N := 32) hx hb hts hiX8 hown hK hP 0 wMg0 rfl 9 (by decide) (hts (.fieldLink RX8 33 "ArcGuesserModel" "weights" "[I") (List.mem_of_getElem? (i := 1) rfl)) (fun _ h9 => h9) rfl dX8_learn_297 ?_
      refine lv_aload_n hx hb dX8_learn_300 rfl (lv_at hl 0 rfl) ?_
      refine va_get (D := D) (ci := 8) (v := .ref (ad 18)) (C := RX8) (T := TX8) (N := 32) hx hb hts hiX8 hown hK hP 0 wMg0 rfl 30 (by decide) (hts (.fieldLink RX8 80 "ArcGuesserModel" "which" "[I") (List.mem_of_getElem? (i := 2) rfl)) (fun _ h9 => h9) rfl dX8_learn_301 ?_
      refine lv_iload hx hb dX8_learn_304 (lv_at hl 4 rfl) ?_
      refine va_iald hx hb hK hP 18 0 wMg18 rfl hq.1 dX8_learn_306 ?_
      have hq := hq.2
      refine lv_aload_n hx hb dX8_learn_307 rfl (lv_at hl 0 rfl) ?_
      refine va_get (D := D) (ci := 8) (v := .ref (ad 19)) (C := RX8) (T := TX8) (N := 32) hx hb hts hiX8 hown hK hP 0 wMg0 rfl 31 (by decide) (hts (.fieldLink RX8 83 "ArcGuesserModel" "best" "[I") (List.mem_of_getElem? (i := 6) rfl)) (fun _ h9 => h9) rfl dX8_learn_308 ?_
      refine lv_iload hx hb dX8_learn_311 (lv_at hl 4 rfl) ?_
      refine va_iald hx hb hK hP 19 0 wMg19 rfl hq.1 dX8_learn_313 ?_
      have hq := hq.2
      refine va_iast hx hb hK hP hD hS 7 0 wMg7 rfl hq.1 dX8_learn_314 (fun H locs hP hD hS => ?_)
      have hP := wMsP7 hP
      have hD := wMsD7 hD
      have hq := hq.2
      refine lv_iinc (v := (v9 + (1 : Int32))) (lv' := [(9, .int (v9 + (1 : Int32))), (0, .ref (ad 0)), (3, .int v3), (4, .long v4), (6, .long v6)]) hx hb dX8_learn_315 hl (k := 4) rfl (by rfl) (by decide) rfl (fun ls hl => ?_)
      refine lv_goto (tgt := 290) hx hb dX8_learn_318 (by decide) ?_
      rw [hK290] at hq
      exact hq _ _ _ hP hD hS (lv_sub hl [1, 2, 3, 4, 0] rfl)
  have hq := hwp K29 K74 K130 K153 K169 K250 K290 hk29 hk74 hk130 hk153 hk169 hk250 hk290
  refine lv_iload_n hx hb dX8_learn_0 rfl (lv_at hl 1 rfl) ?_
  refine lv_if_le (tgt := 21) hx hb dX8_learn_1 (by decide) (fun hc => ?_) (fun hc => ?_)
  · have hq := hq.1 hc
    refine lv_bipush (v := (-2 : Int32)) hx hb dX8_learn_21 (by decide) ?_
    exact W.iret (v := (-2 : Int32)) hx hb hr (fun t ht hW => ⟨⟨(-2 : Int32), σ, rfl, hq, by rw [ht]; exact hP, hD⟩, hS.F ht⟩) hS.2.2 dX8_learn_23
  · have hq := hq.2 hc
    refine lv_iload_n hx hb dX8_learn_4 rfl (lv_at hl 1 rfl) ?_
    refine lv_sipush (v := (2048 : Int32)) hx hb dX8_learn_5 (by decide) ?_
    refine lv_icmp_ge (tgt := 21) hx hb dX8_learn_8 (by decide) (fun hc => ?_) (fun hc => ?_)
    · have hq := hq.1 hc
      refine lv_bipush (v := (-2 : Int32)) hx hb dX8_learn_21 (by decide) ?_
      exact W.iret (v := (-2 : Int32)) hx hb hr (fun t ht hW => ⟨⟨(-2 : Int32), σ, rfl, hq, by rw [ht]; exact hP, hD⟩, hS.F ht⟩) hS.2.2 dX8_learn_23
    · have hq := hq.2 hc
      refine lv_iload_n hx hb dX8_learn_11 rfl (lv_at hl 2 rfl) ?_
      refine lv_iconst (v := (1 : Int32)) hx hb dX8_learn_12 (by decide) ?_
      refine lv_icmp_lt (tgt := 21) hx hb dX8_learn_13 (by decide) (fun hc => ?_) (fun hc => ?_)
      · have hq := hq.1 hc
        refine lv_bipush (v := (-2 : Int32)) hx hb dX8_learn_21 (by decide) ?_
        exact W.iret (v := (-2 : Int32)) hx hb hr (fun t ht hW => ⟨⟨(-2 : Int32), σ, rfl, hq, by rw [ht]; exact hP, hD⟩, hS.F ht⟩) hS.2.2 dX8_learn_23
      · have hq := hq.2 hc
        refine lv_iload_n hx hb dX8_learn_16 rfl (lv_at hl 2 rfl) ?_
        refine lv_iconst (v := (3 : Int32)) hx hb dX8_learn_17 (by decide) ?_
        refine lv_icmp_le (tgt := 24) hx hb dX8_learn_18 (by decide) (fun hc => ?_) (fun hc => ?_)
        · have hq := hq.1 hc
          refine lv_iconst (v := (0 : Int32)) hx hb dX8_learn_24 (by decide) ?_
          refine lv_istore_n (lv' := [(3, .int (0 : Int32)), (0, .ref (ad 0)), (1, .int p1), (2, .int p2)]) hx hb dX8_learn_25 rfl hl (by decide) rfl (fun ls hl => ?_)
          refine lv_iconst (v := (0 : Int32)) hx hb dX8_learn_26 (by decide) ?_
          refine lv_istore (lv' := [(4, .int (0 : Int32)), (3, .int (0 : Int32)), (0, .ref (ad 0)), (1, .int p1), (2, .int p2)]) hx hb dX8_learn_27 hl (by decide) rfl (fun ls hl => ?_)
          rw [hK29] at hq
          exact hq _ _ _ hP hD hS (lv_sub hl [2, 3, 4, 1, 0] rfl)
        · have hq := hq.2 hc
          refine lv_bipush (v := (-2 : Int32)) hx hb dX8_learn_21 (by decide) ?_
          exact W.iret (v := (-2 : Int32)) hx hb hr (fun t ht hW => ⟨⟨(-2 : Int32), σ, rfl, hq, by rw [ht]; exact hP, hD⟩, hS.F ht⟩) hS.2.2 dX8_learn_23
/-! ArcGuesserModel.paths(III)I -/
def X8_paths_wp (σ : Sto) (p1 : Int32) (p2 : Int32) (p3 : Int32) (Post : Int32 → Sto → Prop) : Prop :=
  ((p1 < 0 → (Post (-2 : Int32) σ)) ∧ (¬ p1 < 0 → (((9 : Int32) < p1 → (Post (-2 : Int32) σ)) ∧ (¬ (9 : Int32) < p1 → ((p2 < 0 → (Post (-2 : Int32) σ)) ∧ (¬ p2 < 0 → (((9 : Int32) < p2 → (Post (-2 : Int32) σ)) ∧ (¬ (9 : Int32) < p2 → ((p3 < (1 : Int32) → (Post (-2 : Int32) σ)) ∧ (¬ p3 < (1 : Int32) → ((p3 ≤ (2 : Int32) → (X8_changed_wp σ  (fun σ1 => (Post (1 : Int32) (sI (sI (sI σ1 0 10 p1) 0 11 p2) 0 12 p3))))) ∧ (¬ p3 ≤ (2 : Int32) → (Post (-2 : Int32) σ)))))))))))))
set_option maxHeartbeats 4000000 in
set_option maxRecDepth 100000 in
theorem mtX8_paths (l : Launch) (D : va_G) (ad : Nat → Nat) (cA : Nat → ClassId) (A : Nat → Prop) (σ : Sto) (p1 : Int32) (p2 : Int32) (p3 : Int32) (Post : Int32 → Sto → Prop) (hwp : X8_paths_wp σ p1 p2 p3 Post) : Met l yX8_paths wsX8_paths ({ frames := 1, cells := 0, slots := 0, locals := 21 }) (va_Pc [.ref (ad 0), .int p1, .int p2, .int p3] (stW D (tyM cA) nwM (wM ad cA) A σ)) (va_Qi Post (enW D (wM ad cA) A) A) 0 0 A := by
  refine Met.ofW (cc := cX8_paths) (maxL := 4) (ret := (some .int)) (by decide) rfl ?_
  intro p e s m args below meth c s₁ B hml hv
  obtain ⟨rfl, hA, hN, hP, hK, hD⟩ := hv
  have hx := B.exec
  have hb := B.bytes
  have hr := B.returns
  have hts := atoms_spec (ws := wsX8_paths) B.pre
  have hown : s.vm.findClass RX8 = some m.cls := findClass_of_methodNamed B.named
  have hlocks := B.notSynchronized
  have hiX8 : ∀ w ∈ wsX80, w ∈ wsX8_paths := by decide +kernel
  have hS : va_S A s.heap s.heap [] := va_S.rf
  have hl := lv_entry ([.ref (ad 0), .int p1, .int p2, .int p3]) (n := 4) (Nat.le_of_ble_eq_true rfl)
  rw [lg_entry_eq]
  generalize (lg_sl ([.ref (ad 0), .int p1, .int p2, .int p3]) ++ List.replicate (4 - (lg_sl ([.ref (ad 0), .int p1, .int p2, .int p3])).length) Slot.unset).toArray = ls at hl ⊢
  have hl : lv_has ls 4 [(0, .ref (ad 0)), (1, .int p1), (2, .int p2), (3, .int p3)] := hl
  have hq := hwp
  unfold X8_paths_wp at hq
  refine lv_iload_n hx hb dX8_paths_0 rfl (lv_at hl 1 rfl) ?_
  refine lv_if_lt (tgt := 30) hx hb dX8_paths_1 (by decide) (fun hc => ?_) (fun hc => ?_)
  · have hq := hq.1 hc
    refine lv_bipush (v := (-2 : Int32)) hx hb dX8_paths_30 (by decide) ?_
    exact W.iret (v := (-2 : Int32)) hx hb hr (fun t ht hW => ⟨⟨(-2 : Int32), σ, rfl, hq, by rw [ht]; exact hP, hD⟩, hS.F ht⟩) hS.2.2 dX8_paths_32
  · have hq := hq.2 hc
    refine lv_iload_n hx hb dX8_paths_4 rfl (lv_at hl 1 rfl) ?_
    refine lv_bipush (v := (9 : Int32)) hx hb dX8_paths_5 (by decide) ?_
    refine lv_icmp_gt (tgt := 30) hx hb dX8_paths_7 (by decide) (fun hc => ?_) (fun hc => ?_)
    · have hq := hq.1 hc
      refine lv_bipush (v := (-2 : Int32)) hx hb dX8_paths_30 (by decide) ?_
      exact W.iret (v := (-2 : Int32)) hx hb hr (fun t ht hW => ⟨⟨(-2 : Int32), σ, rfl, hq, by rw [ht]; exact hP, hD⟩, hS.F ht⟩) hS.2.2 dX8_paths_32
    · have hq := hq.2 hc
      refine lv_iload_n hx hb dX8_paths_10 rfl (lv_at hl 2 rfl) ?_
      refine lv_if_lt (tgt := 30) hx hb dX8_paths_11 (by decide) (fun hc => ?_) (fun hc => ?_)
      · have hq := hq.1 hc
        refine lv_bipush (v := (-2 : Int32)) hx hb dX8_paths_30 (by decide) ?_
        exact W.iret (v := (-2 : Int32)) hx hb hr (fun t ht hW => ⟨⟨(-2 : Int32), σ, rfl, hq, by rw [ht]; exact hP, hD⟩, hS.F ht⟩) hS.2.2 dX8_paths_32
      · have hq := hq.2 hc
        refine lv_iload_n hx hb dX8_paths_14 rfl (lv_at hl 2 rfl) ?_
        refine lv_bipush (v := (9 : Int32)) hx hb dX8_paths_15 (by decide) ?_
        refine lv_icmp_gt (tgt := 30) hx hb dX8_paths_17 (by decide) (fun hc => ?_) (fun hc => ?_)
        · have hq := hq.1 hc
          refine lv_bipush (v := (-2 : Int32)) hx hb dX8_paths_30 (by decide) ?_
          exact W.iret (v := (-2 : Int32)) hx hb hr (fun t ht hW => ⟨⟨(-2 : Int32), σ, rfl, hq, by rw [ht]; exact hP, hD⟩, hS.F ht⟩) hS.2.2 dX8_paths_32
        · have hq := hq.2 hc
          refine lv_iload_n hx hb dX8_paths_20 rfl (lv_at hl 3 rfl) ?_
          refine lv_iconst (v := (1 : Int32)) hx hb dX8_paths_21 (by decide) ?_
          refine lv_icmp_lt (tgt := 30) hx hb dX8_paths_22 (by decide) (fun hc => ?_) (fun hc => ?_)
          · have hq := hq.1 hc
            refine lv_bipush (v := (-2 : Int32)) hx hb dX8_paths_30 (by decide) ?_
            exact W.iret (v := (-2 : Int32)) hx hb hr (fun t ht hW => ⟨⟨(-2 : Int32), σ, rfl, hq, by rw [ht]; exact hP, hD⟩, hS.F ht⟩) hS.2.2 dX8_paths_32
          · have hq := hq.2 hc
            refine lv_iload_n hx hb dX8_paths_25 rfl (lv_at hl 3 rfl) ?_
            refine lv_iconst (v := (2 : Int32)) hx hb dX8_paths_26 (by decide) ?_
            refine lv_icmp_le (tgt := 33) hx hb dX8_paths_27 (by decide) (fun hc => ?_) (fun hc => ?_)
            · have hq := hq.1 hc
              refine lv_aload_n hx hb dX8_paths_33 rfl (lv_at hl 0 rfl) ?_
              refine w_callv (va_runV (As := []) (rest := []) ⟨hx, hb, hml, hown, hts⟩ (mtX8_changed l D ad cA A σ  _ hq) (cwV 0 hts gX8_paths_X8_changed rfl rfl rfl (by decide +kernel) ⟨Nat.le_of_ble_eq_true rfl, Nat.le_of_ble_eq_true rfl⟩) ⟨stW_blind nwM_ok, va_recv hK hP (ci := 8) (q0 := 0) rfl wMg0, stW_pass hA hS hN hK hP hD nwM_ok⟩ rfl rfl hl.1 rfl (lv_room (Nat.le_of_ble_eq_true rfl)) dX8_paths_34 ⟨Nat.le_of_ble_eq_true rfl, Nat.le_of_ble_eq_true rfl⟩) hS (fun σ1 H locs hq hP hD hS => ?_)
              refine lv_aload_n hx hb dX8_paths_37 rfl (lv_at hl 0 rfl) ?_
              refine lv_iload_n hx hb dX8_paths_38 rfl (lv_at hl 1 rfl) ?_
              refine va_put (D := D) (ci := 8) (v := .int p1) (ty := .int) (C := RX8) (T := TX8) (N := 32) hx hb hts hiX8 tyX8 tyX8_ok nmX8 hown hK hP hD hS 0 wMg0 rfl 10 (by decide) (hts (.fieldLink RX8 36 "ArcGuesserModel" "two" "I") (List.mem_of_getElem? (i := 1) rfl)) (fun _ h9 => h9) rfl (by decide +kernel) rfl rfl (Nat.le_of_ble_eq_true rfl) dX8_paths_39 (fun H locs hP hD hS => ?_)
              have hP := wMfP0_10 hP
              have hD := wMfD0_10 hD
              refine lv_aload_n hx hb dX8_paths_42 rfl (lv_at hl 0 rfl) ?_
              refine lv_iload_n hx hb dX8_paths_43 rfl (lv_at hl 2 rfl) ?_
              refine va_put (D := D) (ci := 8) (v := .int p2) (ty := .int) (C := RX8) (T := TX8) (N := 32) hx hb hts hiX8 tyX8 tyX8_ok nmX8 hown hK hP hD hS 0 wMg0 rfl 11 (by decide) (hts (.fieldLink RX8 39 "ArcGuesserModel" "three" "I") (List.mem_of_getElem? (i := 2) rfl)) (fun _ h9 => h9) rfl (by decide +kernel) rfl rfl (Nat.le_of_ble_eq_true rfl) dX8_paths_44 (fun H locs hP hD hS => ?_)
              have hP := wMfP0_11 hP
              have hD := wMfD0_11 hD
              refine lv_aload_n hx hb dX8_paths_47 rfl (lv_at hl 0 rfl) ?_
              refine lv_iload_n hx hb dX8_paths_48 rfl (lv_at hl 3 rfl) ?_
              refine va_put (D := D) (ci := 8) (v := .int p3) (ty := .int) (C := RX8) (T := TX8) (N := 32) hx hb hts hiX8 tyX8 tyX8_ok nmX8 hown hK hP hD hS 0 wMg0 rfl 12 (by decide) (hts (.fieldLink RX8 42 "ArcGuesserModel" "steps" "I") (List.mem_of_getElem? (i := 3) rfl)) (fun _ h9 => h9) rfl (by decide +kernel) rfl rfl (Nat.le_of_ble_eq_true rfl) dX8_paths_49 (fun H locs hP hD hS => ?_)
              have hP := wMfP0_12 hP
              have hD := wMfD0_12 hD
              refine lv_iconst (v := (1 : Int32)) hx hb dX8_paths_52 (by decide) ?_
              exact W.iret (v := (1 : Int32)) hx hb hr (fun t ht hW => ⟨⟨(1 : Int32), (sI (sI (sI σ1 0 10 p1) 0 11 p2) 0 12 p3), rfl, hq, by rw [ht]; exact hP, hD⟩, hS.F ht⟩) hS.2.2 dX8_paths_53
            · have hq := hq.2 hc
              refine lv_bipush (v := (-2 : Int32)) hx hb dX8_paths_30 (by decide) ?_
              exact W.iret (v := (-2 : Int32)) hx hb hr (fun t ht hW => ⟨⟨(-2 : Int32), σ, rfl, hq, by rw [ht]; exact hP, hD⟩, hS.F ht⟩) hS.2.2 dX8_paths_32
/-! ArcGuesserModel.place(II)I -/
def X8_place_b57 (p1 : Int32) (p2 : Int32) (K57 : Sto → Int32 → Int32 → Int32 → Prop) (Post : Int32 → Sto → Prop) (σ : Sto) (v3 : Int32) (v4 : Int32) (v5 : Int32) : Prop :=
  (vp_in v5 132 ∧ (((σ.1 13 (v5).toNatClampNeg) = v3 → ((v4 ≤ v5 → (Post (-3 : Int32) σ)) ∧ (¬ v4 ≤ v5 → (Post v5 σ)))) ∧ (¬ (σ.1 13 (v5).toNatClampNeg) = v3 → (K57 σ v3 v4 (v5 + (1 : Int32))))))
def X8_place_wp (σ : Sto) (p1 : Int32) (p2 : Int32) (Post : Int32 → Sto → Prop) : Prop := ∀ (K57 : Sto → Int32 → Int32 → Int32 → Prop), (∀ (σ : Sto) (v3 : Int32) (v4 : Int32) (v5 : Int32), X8_place_b57 p1 p2 K57 Post σ v3 v4 v5 → K57 σ v3 v4 v5) → 
  (X8_isTold_wp σ p1 p2 (fun r1 σ1 => ((¬ r1 = 0 → (X8_isCandidate_wp σ1 p1 p2 (fun r2 σ2 => ((¬ r2 = 0 → (X8_isTurned_wp σ2 p1 p2 (fun r3 σ3 => ((r3 = 0 → (X8_rank_wp σ3  (fun r4 σ4 => (K57 σ4 (((12 : Int32) * p1) + p2) r4 (0 : Int32))))) ∧ (¬ r3 = 0 → (X8_rank_wp σ3  (fun r5 σ5 => (K57 σ5 (((12 : Int32) * p2) + p1) r5 (0 : Int32))))))))) ∧ (r2 = 0 → (Post (-3 : Int32) σ2)))))) ∧ (r1 = 0 → (Post (-1 : Int32) σ1)))))
set_option maxHeartbeats 4000000 in
set_option maxRecDepth 100000 in
theorem mtX8_place (l : Launch) (D : va_G) (ad : Nat → Nat) (cA : Nat → ClassId) (A : Nat → Prop) (σ : Sto) (p1 : Int32) (p2 : Int32) (Post : Int32 → Sto → Prop) (hwp : X8_place_wp σ p1 p2 Post) : Met l yX8_place wsX8_place ({ frames := 8, cells := 0, slots := 0, locals := 216 }) (va_Pc [.ref (ad 0), .int p1, .int p2] (stW D (tyM cA) nwM (wM ad cA) A σ)) (va_Qi Post (enW D (wM ad cA) A) A) 0 0 A := by
  refine Met.ofW (cc := cX8_place) (maxL := 6) (ret := (some .int)) (by decide) rfl ?_
  intro p e s m args below meth c s₁ B hml hv
  obtain ⟨rfl, hA, hN, hP, hK, hD⟩ := hv
  have hx := B.exec
  have hb := B.bytes
  have hr := B.returns
  have hts := atoms_spec (ws := wsX8_place) B.pre
  have hown : s.vm.findClass RX8 = some m.cls := findClass_of_methodNamed B.named
  have hlocks := B.notSynchronized
  have hiX8 : ∀ w ∈ wsX80, w ∈ wsX8_place := by decide +kernel
  have hS : va_S A s.heap s.heap [] := va_S.rf
  have hl := lv_entry ([.ref (ad 0), .int p1, .int p2]) (n := 6) (Nat.le_of_ble_eq_true rfl)
  rw [lg_entry_eq]
  generalize (lg_sl ([.ref (ad 0), .int p1, .int p2]) ++ List.replicate (6 - (lg_sl ([.ref (ad 0), .int p1, .int p2])).length) Slot.unset).toArray = ls at hl ⊢
  have hl : lv_has ls 6 [(0, .ref (ad 0)), (1, .int p1), (2, .int p2)] := hl
  obtain ⟨K57, hK57⟩ : ∃ K : Sto → Int32 → Int32 → Int32 → Prop, K = fun (σ : Sto) (v3 : Int32) (v4 : Int32) (v5 : Int32) => ∀ (H : Heap) (locs : List Loc) (ls : Array Slot), va_P D vwCl ((wM ad cA) σ) H → va_D A ((wM ad cA) σ) → va_S A s.heap H locs → lv_has ls 6 [(0, .ref (ad 0)), (3, .int v3), (4, .int v4), (5, .int v5)] → W p l e (headSpec wsX8_place ({ frames := 8, cells := 0, slots := 0, locals := 216 })).room s m ([.ref (ad 0), .int p1, .int p2] : List Value).toArray below meth c H locs 0 0 (MQ below (va_Qi Post (enW D (wM ad cA) A) A) ([.ref (ad 0), .int p1, .int p2] : List Value).toArray s 0 0 A) (F0 m 57 ls []) := ⟨_, rfl⟩
  have hk57 : ∀ (σ : Sto) (v3 : Int32) (v4 : Int32) (v5 : Int32), X8_place_b57 p1 p2 K57 Post σ v3 v4 v5 → K57 σ v3 v4 v5 := by
    intro σ v3 v4 v5 hq
    rw [hK57]
    intro H locs ls hP hD hS hl
    unfold X8_place_b57 at hq
    refine lv_aload_n hx hb dX8_place_57 rfl (lv_at hl 0 rfl) ?_
    refine va_get (D := D) (ci := 8) (v := .ref (ad 13)) (C := RX8) (T := TX8) (N := 32) hx hb hts hiX8 hown hK hP 0 wMg0 rfl 23 (by decide) (hts (.fieldLink RX8 65 "ArcGuesserModel" "order" "[I") (List.mem_of_getElem? (i := 1) rfl)) (fun _ h9 => h9) rfl dX8_place_58 ?_
    refine lv_iload hx hb dX8_place_61 (lv_at hl 3 rfl) ?_
    refine va_iald hx hb hK hP 13 0 wMg13 rfl hq.1 dX8_place_63 ?_
    have hq := hq.2
    refine lv_iload_n hx hb dX8_place_64 rfl (lv_at hl 1 rfl) ?_
    refine lv_icmp_eq (tgt := 74) hx hb dX8_place_65 (by decide) (fun hc => ?_) (fun hc => ?_)
    · have hq := hq.1 hc
      refine lv_iload hx hb dX8_place_74 (lv_at hl 3 rfl) ?_
      refine lv_iload hx hb dX8_place_76 (lv_at hl 2 rfl) ?_
      refine lv_icmp_ge (tgt := 86) hx hb dX8_place_78 (by decide) (fun hc => ?_) (fun hc => ?_)
      · have hq := hq.1 hc
        refine lv_bipush (v := (-3 : Int32)) hx hb dX8_place_86 (by decide) ?_
        exact W.iret (v := (-3 : Int32)) hx hb hr (fun t ht hW => ⟨⟨(-3 : Int32), σ, rfl, hq, by rw [ht]; exact hP, hD⟩, hS.F ht⟩) hS.2.2 dX8_place_88
      · have hq := hq.2 hc
        refine lv_iload hx hb dX8_place_81 (lv_at hl 3 rfl) ?_
        refine lv_goto (tgt := 88) hx hb dX8_place_83 (by decide) ?_
        exact W.iret (v := v5) hx hb hr (fun t ht hW => ⟨⟨v5, σ, rfl, hq, by rw [ht]; exact hP, hD⟩, hS.F ht⟩) hS.2.2 dX8_place_88
    · have hq := hq.2 hc
      refine lv_iinc (v := (v5 + (1 : Int32))) (lv' := [(5, .int (v5 + (1 : Int32))), (0, .ref (ad 0)), (3, .int v3), (4, .int v4)]) hx hb dX8_place_68 hl (k := 3) rfl (by rfl) (by decide) rfl (fun ls hl => ?_)
      refine lv_goto (tgt := 57) hx hb dX8_place_71 (by decide) ?_
      rw [hK57] at hq
      exact hq _ _ _ hP hD hS (lv_sub hl [1, 2, 3, 0] rfl)
  have hq := hwp K57 hk57
  refine lv_aload_n hx hb dX8_place_0 rfl (lv_at hl 0 rfl) ?_
  refine lv_iload_n hx hb dX8_place_1 rfl (lv_at hl 1 rfl) ?_
  refine lv_iload_n hx hb dX8_place_2 rfl (lv_at hl 2 rfl) ?_
  refine w_calli (va_runV (As := [.int p1, .int p2]) (rest := []) ⟨hx, hb, hml, hown, hts⟩ (mtX8_isTold l D ad cA A σ p1 p2 _ hq) (cwV 2 hts gX8_place_X8_isTold rfl rfl rfl (by decide +kernel) ⟨Nat.le_of_ble_eq_true rfl, Nat.le_of_ble_eq_true rfl⟩) ⟨stW_blind nwM_ok, va_recv hK hP (ci := 8) (q0 := 0) rfl wMg0, stW_pass hA hS hN hK hP hD nwM_ok⟩ rfl rfl hl.1 rfl (lv_room (Nat.le_of_ble_eq_true rfl)) dX8_place_3 ⟨Nat.le_of_ble_eq_true rfl, Nat.le_of_ble_eq_true rfl⟩) hS (fun r1 σ1 H locs hq hP hD hS => ?_)
  refine lv_if_ne (tgt := 11) hx hb dX8_place_6 (by decide) (fun hc => ?_) (fun hc => ?_)
  · have hq := hq.1 hc
    refine lv_aload_n hx hb dX8_place_11 rfl (lv_at hl 0 rfl) ?_
    refine lv_iload_n hx hb dX8_place_12 rfl (lv_at hl 1 rfl) ?_
    refine lv_iload_n hx hb dX8_place_13 rfl (lv_at hl 2 rfl) ?_
    refine w_calli (va_runV (As := [.int p1, .int p2]) (rest := []) ⟨hx, hb, hml, hown, hts⟩ (mtX8_isCandidate l D ad cA A σ1 p1 p2 _ hq) (cwV 2 hts gX8_place_X8_isCandidate rfl rfl rfl (by decide +kernel) ⟨Nat.le_of_ble_eq_true rfl, Nat.le_of_ble_eq_true rfl⟩) ⟨stW_blind nwM_ok, va_recv hK hP (ci := 8) (q0 := 0) rfl wMg0, stW_pass hA hS hN hK hP hD nwM_ok⟩ rfl rfl hl.1 rfl (lv_room (Nat.le_of_ble_eq_true rfl)) dX8_place_14 ⟨Nat.le_of_ble_eq_true rfl, Nat.le_of_ble_eq_true rfl⟩) hS (fun r2 σ2 H locs hq hP hD hS => ?_)
    refine lv_if_ne (tgt := 23) hx hb dX8_place_17 (by decide) (fun hc => ?_) (fun hc => ?_)
    · have hq := hq.1 hc
      refine lv_aload_n hx hb dX8_place_23 rfl (lv_at hl 0 rfl) ?_
      refine lv_iload_n hx hb dX8_place_24 rfl (lv_at hl 1 rfl) ?_
      refine lv_iload_n hx hb dX8_place_25 rfl (lv_at hl 2 rfl) ?_
      refine w_calli (va_runV (As := [.int p1, .int p2]) (rest := []) ⟨hx, hb, hml, hown, hts⟩ (mtX8_isTurned l D ad cA A σ2 p1 p2 _ hq) (cwV 2 hts gX8_place_X8_isTurned rfl rfl rfl (by decide +kernel) ⟨Nat.le_of_ble_eq_true rfl, Nat.le_of_ble_eq_true rfl⟩) ⟨stW_blind nwM_ok, va_recv hK hP (ci := 8) (q0 := 0) rfl wMg0, stW_pass hA hS hN hK hP hD nwM_ok⟩ rfl rfl hl.1 rfl (lv_room (Nat.le_of_ble_eq_true rfl)) dX8_place_26 ⟨Nat.le_of_ble_eq_true rfl, Nat.le_of_ble_eq_true rfl⟩) hS (fun r3 σ3 H locs hq hP hD hS => ?_)
      refine lv_if_eq (tgt := 41) hx hb dX8_place_29 (by decide) (fun hc => ?_) (fun hc => ?_)
      · have hq := hq.1 hc
        refine lv_bipush (v := (12 : Int32)) hx hb dX8_place_41 (by decide) ?_
        refine lv_iload_n hx hb dX8_place_43 rfl (lv_at hl 1 rfl) ?_
        refine lv_imul hx hb dX8_place_44 ?_
        refine lv_iload_n hx hb dX8_place_45 rfl (lv_at hl 2 rfl) ?_
        refine lv_iadd hx hb dX8_place_46 ?_
        refine lv_istore_n (lv' := [(3, .int (((12 : Int32) * p1) + p2)), (0, .ref (ad 0)), (1, .int p1), (2, .int p2)]) hx hb dX8_place_47 rfl hl (by decide) rfl (fun ls hl => ?_)
        refine lv_aload_n hx hb dX8_place_48 rfl (lv_at hl 1 rfl) ?_
        refine w_calli (va_runV (As := []) (rest := []) ⟨hx, hb, hml, hown, hts⟩ (mtX8_rank l D ad cA A σ3  _ hq) (cwV 0 hts gX8_place_X8_rank rfl rfl rfl (by decide +kernel) ⟨Nat.le_of_ble_eq_true rfl, Nat.le_of_ble_eq_true rfl⟩) ⟨stW_blind nwM_ok, va_recv hK hP (ci := 8) (q0 := 0) rfl wMg0, stW_pass hA hS hN hK hP hD nwM_ok⟩ rfl rfl hl.1 rfl (lv_room (Nat.le_of_ble_eq_true rfl)) dX8_place_49 ⟨Nat.le_of_ble_eq_true rfl, Nat.le_of_ble_eq_true rfl⟩) hS (fun r4 σ4 H locs hq hP hD hS => ?_)
        refine lv_istore (lv' := [(4, .int r4), (3, .int (((12 : Int32) * p1) + p2)), (0, .ref (ad 0)), (1, .int p1), (2, .int p2)]) hx hb dX8_place_52 hl (by decide) rfl (fun ls hl => ?_)
        refine lv_iconst (v := (0 : Int32)) hx hb dX8_place_54 (by decide) ?_
        refine lv_istore (lv' := [(5, .int (0 : Int32)), (4, .int r4), (3, .int (((12 : Int32) * p1) + p2)), (0, .ref (ad 0)), (1, .int p1), (2, .int p2)]) hx hb dX8_place_55 hl (by decide) rfl (fun ls hl => ?_)
        rw [hK57] at hq
        exact hq _ _ _ hP hD hS (lv_sub hl [3, 2, 1, 0] rfl)
      · have hq := hq.2 hc
        refine lv_bipush (v := (12 : Int32)) hx hb dX8_place_32 (by decide) ?_
        refine lv_iload_n hx hb dX8_place_34 rfl (lv_at hl 2 rfl) ?_
        refine lv_imul hx hb dX8_place_35 ?_
        refine lv_iload_n hx hb dX8_place_36 rfl (lv_at hl 1 rfl) ?_
        refine lv_iadd hx hb dX8_place_37 ?_
        refine lv_goto (tgt := 47) hx hb dX8_place_38 (by decide) ?_
        refine lv_istore_n (lv' := [(3, .int (((12 : Int32) * p2) + p1)), (0, .ref (ad 0)), (1, .int p1), (2, .int p2)]) hx hb dX8_place_47 rfl hl (by decide) rfl (fun ls hl => ?_)
        refine lv_aload_n hx hb dX8_place_48 rfl (lv_at hl 1 rfl) ?_
        refine w_calli (va_runV (As := []) (rest := []) ⟨hx, hb, hml, hown, hts⟩ (mtX8_rank l D ad cA A σ3  _ hq) (cwV 0 hts gX8_place_X8_rank rfl rfl rfl (by decide +kernel) ⟨Nat.le_of_ble_eq_true rfl, Nat.le_of_ble_eq_true rfl⟩) ⟨stW_blind nwM_ok, va_recv hK hP (ci := 8) (q0 := 0) rfl wMg0, stW_pass hA hS hN hK hP hD nwM_ok⟩ rfl rfl hl.1 rfl (lv_room (Nat.le_of_ble_eq_true rfl)) dX8_place_49 ⟨Nat.le_of_ble_eq_true rfl, Nat.le_of_ble_eq_true rfl⟩) hS (fun r5 σ5 H locs hq hP hD hS => ?_)
        refine lv_istore (lv' := [(4, .int r5), (3, .int (((12 : Int32) * p2) + p1)), (0, .ref (ad 0)), (1, .int p1), (2, .int p2)]) hx hb dX8_place_52 hl (by decide) rfl (fun ls hl => ?_)
        refine lv_iconst (v := (0 : Int32)) hx hb dX8_place_54 (by decide) ?_
        refine lv_istore (lv' := [(5, .int (0 : Int32)), (4, .int r5), (3, .int (((12 : Int32) * p2) + p1)), (0, .ref (ad 0)), (1, .int p1), (2, .int p2)]) hx hb dX8_place_55 hl (by decide) rfl (fun ls hl => ?_)
        rw [hK57] at hq
        exact hq _ _ _ hP hD hS (lv_sub hl [3, 2, 1, 0] rfl)
    · have hq := hq.2 hc
      refine lv_bipush (v := (-3 : Int32)) hx hb dX8_place_20 (by decide) ?_
      exact W.iret (v := (-3 : Int32)) hx hb hr (fun t ht hW => ⟨⟨(-3 : Int32), σ2, rfl, hq, by rw [ht]; exact hP, hD⟩, hS.F ht⟩) hS.2.2 dX8_place_22
  · have hq := hq.2 hc
    refine lv_iconst (v := (-1 : Int32)) hx hb dX8_place_9 (by decide) ?_
    exact W.iret (v := (-1 : Int32)) hx hb hr (fun t ht hW => ⟨⟨(-1 : Int32), σ1, rfl, hq, by rw [ht]; exact hP, hD⟩, hS.F ht⟩) hS.2.2 dX8_place_10
/-! ArcGuesserModel.ranked(I)I -/
def X8_ranked_wp (σ : Sto) (p1 : Int32) (Post : Int32 → Sto → Prop) : Prop :=
  (X8_rank_wp σ  (fun r1 σ1 => ((p1 < 0 → (Post (-2 : Int32) σ1)) ∧ (¬ p1 < 0 → ((p1 < r1 → (vp_in p1 132 ∧ (vp_in p1 132 ∧ (Post (((16 : Int32) * ((σ1.1 13 (p1).toNatClampNeg) / (12 : Int32))) + ((σ1.1 13 (p1).toNatClampNeg) - (σ1.1 13 (p1).toNatClampNeg) / (12 : Int32) * (12 : Int32))) σ1)))) ∧ (¬ p1 < r1 → (Post (-2 : Int32) σ1)))))))
set_option maxHeartbeats 4000000 in
set_option maxRecDepth 100000 in
theorem mtX8_ranked (l : Launch) (D : va_G) (ad : Nat → Nat) (cA : Nat → ClassId) (A : Nat → Prop) (σ : Sto) (p1 : Int32) (Post : Int32 → Sto → Prop) (hwp : X8_ranked_wp σ p1 Post) : Met l yX8_ranked wsX8_ranked ({ frames := 8, cells := 0, slots := 0, locals := 216 }) (va_Pc [.ref (ad 0), .int p1] (stW D (tyM cA) nwM (wM ad cA) A σ)) (va_Qi Post (enW D (wM ad cA) A) A) 0 0 A := by
  refine Met.ofW (cc := cX8_ranked) (maxL := 3) (ret := (some .int)) (by decide) rfl ?_
  intro p e s m args below meth c s₁ B hml hv
  obtain ⟨rfl, hA, hN, hP, hK, hD⟩ := hv
  have hx := B.exec
  have hb := B.bytes
  have hr := B.returns
  have hts := atoms_spec (ws := wsX8_ranked) B.pre
  have hown : s.vm.findClass RX8 = some m.cls := findClass_of_methodNamed B.named
  have hlocks := B.notSynchronized
  have hiX8 : ∀ w ∈ wsX80, w ∈ wsX8_ranked := by decide +kernel
  have hS : va_S A s.heap s.heap [] := va_S.rf
  have hl := lv_entry ([.ref (ad 0), .int p1]) (n := 3) (Nat.le_of_ble_eq_true rfl)
  rw [lg_entry_eq]
  generalize (lg_sl ([.ref (ad 0), .int p1]) ++ List.replicate (3 - (lg_sl ([.ref (ad 0), .int p1])).length) Slot.unset).toArray = ls at hl ⊢
  have hl : lv_has ls 3 [(0, .ref (ad 0)), (1, .int p1)] := hl
  have hq := hwp
  unfold X8_ranked_wp at hq
  refine lv_aload_n hx hb dX8_ranked_0 rfl (lv_at hl 0 rfl) ?_
  refine w_calli (va_runV (As := []) (rest := []) ⟨hx, hb, hml, hown, hts⟩ (mtX8_rank l D ad cA A σ  _ hq) (cwV 0 hts gX8_ranked_X8_rank rfl rfl rfl (by decide +kernel) ⟨Nat.le_of_ble_eq_true rfl, Nat.le_of_ble_eq_true rfl⟩) ⟨stW_blind nwM_ok, va_recv hK hP (ci := 8) (q0 := 0) rfl wMg0, stW_pass hA hS hN hK hP hD nwM_ok⟩ rfl rfl hl.1 rfl (lv_room (Nat.le_of_ble_eq_true rfl)) dX8_ranked_1 ⟨Nat.le_of_ble_eq_true rfl, Nat.le_of_ble_eq_true rfl⟩) hS (fun r1 σ1 H locs hq hP hD hS => ?_)
  refine lv_istore_n (lv' := [(2, .int r1), (0, .ref (ad 0)), (1, .int p1)]) hx hb dX8_ranked_4 rfl hl (by decide) rfl (fun ls hl => ?_)
  refine lv_iload_n hx hb dX8_ranked_5 rfl (lv_at hl 2 rfl) ?_
  refine lv_if_lt (tgt := 14) hx hb dX8_ranked_6 (by decide) (fun hc => ?_) (fun hc => ?_)
  · have hq := hq.1 hc
    refine lv_bipush (v := (-2 : Int32)) hx hb dX8_ranked_14 (by decide) ?_
    refine lv_goto (tgt := 41) hx hb dX8_ranked_16 (by decide) ?_
    exact W.iret (v := (-2 : Int32)) hx hb hr (fun t ht hW => ⟨⟨(-2 : Int32), σ1, rfl, hq, by rw [ht]; exact hP, hD⟩, hS.F ht⟩) hS.2.2 dX8_ranked_41
  · have hq := hq.2 hc
    refine lv_iload_n hx hb dX8_ranked_9 rfl (lv_at hl 2 rfl) ?_
    refine lv_iload_n hx hb dX8_ranked_10 rfl (lv_at hl 0 rfl) ?_
    refine lv_icmp_lt (tgt := 19) hx hb dX8_ranked_11 (by decide) (fun hc => ?_) (fun hc => ?_)
    · have hq := hq.1 hc
      refine lv_bipush (v := (16 : Int32)) hx hb dX8_ranked_19 (by decide) ?_
      refine lv_aload_n hx hb dX8_ranked_21 rfl (lv_at hl 1 rfl) ?_
      refine va_get (D := D) (ci := 8) (v := .ref (ad 13)) (C := RX8) (T := TX8) (N := 32) hx hb hts hiX8 hown hK hP 0 wMg0 rfl 23 (by decide) (hts (.fieldLink RX8 65 "ArcGuesserModel" "order" "[I") (List.mem_of_getElem? (i := 1) rfl)) (fun _ h9 => h9) rfl dX8_ranked_22 ?_
      refine lv_iload_n hx hb dX8_ranked_25 rfl (lv_at hl 2 rfl) ?_
      refine va_iald hx hb hK hP 13 0 wMg13 rfl hq.1 dX8_ranked_26 ?_
      have hq := hq.2
      refine lv_bipush (v := (12 : Int32)) hx hb dX8_ranked_27 (by decide) ?_
      refine lv_idiv hx hb dX8_ranked_29 (by decide) ?_
      refine lv_imul hx hb dX8_ranked_30 ?_
      refine lv_aload_n hx hb dX8_ranked_31 rfl (lv_at hl 1 rfl) ?_
      refine va_get (D := D) (ci := 8) (v := .ref (ad 13)) (C := RX8) (T := TX8) (N := 32) hx hb hts hiX8 hown hK hP 0 wMg0 rfl 23 (by decide) (hts (.fieldLink RX8 65 "ArcGuesserModel" "order" "[I") (List.mem_of_getElem? (i := 1) rfl)) (fun _ h9 => h9) rfl dX8_ranked_32 ?_
      refine lv_iload_n hx hb dX8_ranked_35 rfl (lv_at hl 2 rfl) ?_
      refine va_iald hx hb hK hP 13 0 wMg13 rfl hq.1 dX8_ranked_36 ?_
      have hq := hq.2
      refine lv_bipush (v := (12 : Int32)) hx hb dX8_ranked_37 (by decide) ?_
      refine lv_irem hx hb dX8_ranked_39 (by decide) ?_
      refine lv_iadd hx hb dX8_ranked_40 ?_
      exact W.iret (v := (((16 : Int32) * ((σ1.1 13 (p1).toNatClampNeg) / (12 : Int32))) + ((σ1.1 13 (p1).toNatClampNeg) - (σ1.1 13 (p1).toNatClampNeg) / (12 : Int32) * (12 : Int32)))) hx hb hr (fun t ht hW => ⟨⟨(((16 : Int32) * ((σ1.1 13 (p1).toNatClampNeg) / (12 : Int32))) + ((σ1.1 13 (p1).toNatClampNeg) - (σ1.1 13 (p1).toNatClampNeg) / (12 : Int32) * (12 : Int32))), σ1, rfl, hq, by rw [ht]; exact hP, hD⟩, hS.F ht⟩) hS.2.2 dX8_ranked_41
    · have hq := hq.2 hc
      refine lv_bipush (v := (-2 : Int32)) hx hb dX8_ranked_14 (by decide) ?_
      refine lv_goto (tgt := 41) hx hb dX8_ranked_16 (by decide) ?_
      exact W.iret (v := (-2 : Int32)) hx hb hr (fun t ht hW => ⟨⟨(-2 : Int32), σ1, rfl, hq, by rw [ht]; exact hP, hD⟩, hS.F ht⟩) hS.2.2 dX8_ranked_41
/-! ArcGuesserModel.show()V -/
def X8_show_wp (σ : Sto)  (Post : Sto → Prop) : Prop :=
  (Post (sJ (sJ σ 0 16 (σ.2 0 19)) 0 17 (σ.2 0 20)))
set_option maxHeartbeats 4000000 in
set_option maxRecDepth 100000 in
theorem mtX8_show (l : Launch) (D : va_G) (ad : Nat → Nat) (cA : Nat → ClassId) (A : Nat → Prop) (σ : Sto)  (Post : Sto → Prop) (hwp : X8_show_wp σ  Post) : Met l yX8_show wsX8_show ({ frames := 0, cells := 0, slots := 0, locals := 0 }) (va_Pc [.ref (ad 0)] (stW D (tyM cA) nwM (wM ad cA) A σ)) (va_Qv Post (enW D (wM ad cA) A) A) 0 0 A := by
  refine Met.ofW (cc := cX8_show) (maxL := 1) (ret := none) (by decide) rfl ?_
  intro p e s m args below meth c s₁ B hml hv
  obtain ⟨rfl, hA, hN, hP, hK, hD⟩ := hv
  have hx := B.exec
  have hb := B.bytes
  have hr := B.returns
  have hts := atoms_spec (ws := wsX8_show) B.pre
  have hown : s.vm.findClass RX8 = some m.cls := findClass_of_methodNamed B.named
  have hlocks := B.notSynchronized
  have hiX8 : ∀ w ∈ wsX80, w ∈ wsX8_show := by decide +kernel
  have hS : va_S A s.heap s.heap [] := va_S.rf
  have hl := lv_entry ([.ref (ad 0)]) (n := 1) (Nat.le_of_ble_eq_true rfl)
  rw [lg_entry_eq]
  generalize (lg_sl ([.ref (ad 0)]) ++ List.replicate (1 - (lg_sl ([.ref (ad 0)])).length) Slot.unset).toArray = ls at hl ⊢
  have hl : lv_has ls 1 [(0, .ref (ad 0))] := hl
  have hq := hwp
  unfold X8_show_wp at hq
  refine lv_aload_n hx hb dX8_show_0 rfl (lv_at hl 0 rfl) ?_
  refine lv_aload_n hx hb dX8_show_1 rfl (lv_at hl 0 rfl) ?_
  refine va_get (D := D) (ci := 8) (v := .long (σ.2 0 19)) (C := RX8) (T := TX8) (N := 32) hx hb hts hiX8 hown hK hP 0 wMg0 rfl 19 (by decide) (hts (.fieldLink RX8 136 "ArcGuesserModel" "top" "J") (List.mem_of_getElem? (i := 1) rfl)) (fun _ h9 => h9) rfl dX8_show_2 ?_
  refine va_put (D := D) (ci := 8) (v := .long (σ.2 0 19)) (ty := .long) (C := RX8) (T := TX8) (N := 32) hx hb hts hiX8 tyX8 tyX8_ok nmX8 hown hK hP hD hS 0 wMg0 rfl 16 (by decide) (hts (.fieldLink RX8 95 "ArcGuesserModel" "boardTop" "J") (List.mem_of_getElem? (i := 2) rfl)) (fun _ h9 => h9) rfl (by decide +kernel) rfl rfl (Nat.le_of_ble_eq_true rfl) dX8_show_5 (fun H locs hP hD hS => ?_)
  have hP := wMfP0_16 hP
  have hD := wMfD0_16 hD
  refine lv_aload_n hx hb dX8_show_8 rfl (lv_at hl 0 rfl) ?_
  refine lv_aload_n hx hb dX8_show_9 rfl (lv_at hl 0 rfl) ?_
  refine va_get (D := D) (ci := 8) (v := .long (σ.2 0 20)) (C := RX8) (T := TX8) (N := 32) hx hb hts hiX8 hown hK hP 0 wMg0 rfl 20 (by decide) (hts (.fieldLink RX8 139 "ArcGuesserModel" "bottom" "J") (List.mem_of_getElem? (i := 3) rfl)) (fun _ h9 => h9) rfl dX8_show_10 ?_
  refine va_put (D := D) (ci := 8) (v := .long (σ.2 0 20)) (ty := .long) (C := RX8) (T := TX8) (N := 32) hx hb hts hiX8 tyX8 tyX8_ok nmX8 hown hK hP hD hS 0 wMg0 rfl 17 (by decide) (hts (.fieldLink RX8 55 "ArcGuesserModel" "boardBottom" "J") (List.mem_of_getElem? (i := 4) rfl)) (fun _ h9 => h9) rfl (by decide +kernel) rfl rfl (Nat.le_of_ble_eq_true rfl) dX8_show_13 (fun H locs hP hD hS => ?_)
  have hP := wMfP0_17 hP
  have hD := wMfD0_17 hD
  exact W.vret hx hb hr (fun t ht hW => ⟨⟨(sJ (sJ σ 0 16 (σ.2 0 19)) 0 17 (σ.2 0 20)), rfl, hq, by rw [ht]; exact hP, hD⟩, hS.F ht⟩) hS.2.2 dX8_show_16
/-! ArcGuesserModel.sample(I)I -/
def X8_sample_b20 (p1 : Int32) (K20 : Sto → Int64 → Int32 → Prop) (Post : Int32 → Sto → Prop) (σ : Sto) (v2 : Int64) (v4 : Int32) : Prop :=
  (((σ.1 0 28) ≤ v4 → (X8_make_wp σ v2 ((2 : Int64) * ((σ.1 0 28)).toInt64) (fun σ1 => (X8_show_wp σ1  (fun σ2 => (Post (1 : Int32) σ2)))))) ∧ (¬ (σ.1 0 28) ≤ v4 → (vp_in v4 132 ∧ (X8_draw_wp σ  (fun r3 σ3 => ((¬ (σ3.1 0 29) = 0) ∧ (vp_in (r3 - r3 / (σ3.1 0 29) * (σ3.1 0 29)) 132 ∧ (X8_wins_wp σ3 (σ.1 16 (v4).toNatClampNeg) (σ3.1 17 ((r3 - r3 / (σ3.1 0 29) * (σ3.1 0 29))).toNatClampNeg) (fun r4 σ4 => (K20 σ4 (v2 + r4) (v4 + (1 : Int32))))))))))))
def X8_sample_wp (σ : Sto) (p1 : Int32) (Post : Int32 → Sto → Prop) : Prop := ∀ (K20 : Sto → Int64 → Int32 → Prop), (∀ (σ : Sto) (v2 : Int64) (v4 : Int32), X8_sample_b20 p1 K20 Post σ v2 v4 → K20 σ v2 v4) → 
  (X8_parted_wp σ  (fun r1 σ1 => ((¬ r1 = 0 → (K20 (sI σ1 0 18 p1) (0 : Int64) (0 : Int32))) ∧ (r1 = 0 → (Post (-3 : Int32) σ1)))))
set_option maxHeartbeats 4000000 in
set_option maxRecDepth 100000 in
theorem mtX8_sample (l : Launch) (D : va_G) (ad : Nat → Nat) (cA : Nat → ClassId) (A : Nat → Prop) (σ : Sto) (p1 : Int32) (Post : Int32 → Sto → Prop) (hwp : X8_sample_wp σ p1 Post) : Met l yX8_sample wsX8_sample ({ frames := 9, cells := 0, slots := 0, locals := 239 }) (va_Pc [.ref (ad 0), .int p1] (stW D (tyM cA) nwM (wM ad cA) A σ)) (va_Qi Post (enW D (wM ad cA) A) A) 0 0 A := by
  refine Met.ofW (cc := cX8_sample) (maxL := 5) (ret := (some .int)) (by decide) rfl ?_
  intro p e s m args below meth c s₁ B hml hv
  obtain ⟨rfl, hA, hN, hP, hK, hD⟩ := hv
  have hx := B.exec
  have hb := B.bytes
  have hr := B.returns
  have hts := atoms_spec (ws := wsX8_sample) B.pre
  have hown : s.vm.findClass RX8 = some m.cls := findClass_of_methodNamed B.named
  have hlocks := B.notSynchronized
  have hiX8 : ∀ w ∈ wsX80, w ∈ wsX8_sample := by decide +kernel
  have hS : va_S A s.heap s.heap [] := va_S.rf
  have hl := lv_entry ([.ref (ad 0), .int p1]) (n := 5) (Nat.le_of_ble_eq_true rfl)
  rw [lg_entry_eq]
  generalize (lg_sl ([.ref (ad 0), .int p1]) ++ List.replicate (5 - (lg_sl ([.ref (ad 0), .int p1])).length) Slot.unset).toArray = ls at hl ⊢
  have hl : lv_has ls 5 [(0, .ref (ad 0)), (1, .int p1)] := hl
  obtain ⟨K20, hK20⟩ : ∃ K : Sto → Int64 → Int32 → Prop, K = fun (σ : Sto) (v2 : Int64) (v4 : Int32) => ∀ (H : Heap) (locs : List Loc) (ls : Array Slot), va_P D vwCl ((wM ad cA) σ) H → va_D A ((wM ad cA) σ) → va_S A s.heap H locs → lv_has ls 5 [(0, .ref (ad 0)), (2, .long v2), (4, .int v4)] → W p l e (headSpec wsX8_sample ({ frames := 9, cells := 0, slots := 0, locals := 239 })).room s m ([.ref (ad 0), .int p1] : List Value).toArray below meth c H locs 0 0 (MQ below (va_Qi Post (enW D (wM ad cA) A) A) ([.ref (ad 0), .int p1] : List Value).toArray s 0 0 A) (F0 m 20 ls []) := ⟨_, rfl⟩
  have hk20 : ∀ (σ : Sto) (v2 : Int64) (v4 : Int32), X8_sample_b20 p1 K20 Post σ v2 v4 → K20 σ v2 v4 := by
    intro σ v2 v4 hq
    rw [hK20]
    intro H locs ls hP hD hS hl
    unfold X8_sample_b20 at hq
    refine lv_iload hx hb dX8_sample_20 (lv_at hl 2 rfl) ?_
    refine lv_aload_n hx hb dX8_sample_22 rfl (lv_at hl 0 rfl) ?_
    refine va_get (D := D) (ci := 8) (v := .int (σ.1 0 28)) (C := RX8) (T := TX8) (N := 32) hx hb hts hiX8 hown hK hP 0 wMg0 rfl 28 (by decide) (hts (.fieldLink RX8 205 "ArcGuesserModel" "foundMany" "I") (List.mem_of_getElem? (i := 2) rfl)) (fun _ h9 => h9) rfl dX8_sample_23 ?_
    refine lv_icmp_ge (tgt := 63) hx hb dX8_sample_26 (by decide) (fun hc => ?_) (fun hc => ?_)
    · have hq := hq.1 hc
      refine lv_aload_n hx hb dX8_sample_63 rfl (lv_at hl 0 rfl) ?_
      refine lv_lload_n hx hb dX8_sample_64 rfl (lv_at hl 1 rfl) ?_
      refine lv_ldc2 (v := (2 : Int64)) hx hb hown (hts (.constantLong RX8 164 (2)) (List.mem_of_getElem? (i := 6) rfl)) dX8_sample_65 ?_
      refine lv_aload_n hx hb dX8_sample_68 rfl (lv_at hl 0 rfl) ?_
      refine va_get (D := D) (ci := 8) (v := .int (σ.1 0 28)) (C := RX8) (T := TX8) (N := 32) hx hb hts hiX8 hown hK hP 0 wMg0 rfl 28 (by decide) (hts (.fieldLink RX8 205 "ArcGuesserModel" "foundMany" "I") (List.mem_of_getElem? (i := 2) rfl)) (fun _ h9 => h9) rfl dX8_sample_69 ?_
      refine lv_i2l hx hb dX8_sample_72 rfl ?_
      refine lv_lmul hx hb dX8_sample_73 ?_
      refine w_callv (va_runV (As := [.long v2, .long ((2 : Int64) * ((σ.1 0 28)).toInt64)]) (rest := []) ⟨hx, hb, hml, hown, hts⟩ (mtX8_make l D ad cA A σ v2 ((2 : Int64) * ((σ.1 0 28)).toInt64) _ hq) (cwV 2 hts gX8_sample_X8_make rfl rfl rfl (by decide +kernel) ⟨Nat.le_of_ble_eq_true rfl, Nat.le_of_ble_eq_true rfl⟩) ⟨stW_blind nwM_ok, va_recv hK hP (ci := 8) (q0 := 0) rfl wMg0, stW_pass hA hS hN hK hP hD nwM_ok⟩ rfl rfl hl.1 rfl (lv_room (Nat.le_of_ble_eq_true rfl)) dX8_sample_74 ⟨Nat.le_of_ble_eq_true rfl, Nat.le_of_ble_eq_true rfl⟩) hS (fun σ1 H locs hq hP hD hS => ?_)
      refine lv_aload_n hx hb dX8_sample_77 rfl (lv_at hl 0 rfl) ?_
      refine w_callv (va_runV (As := []) (rest := []) ⟨hx, hb, hml, hown, hts⟩ (mtX8_show l D ad cA A σ1  _ hq) (cwV 0 hts gX8_sample_X8_show rfl rfl rfl (by decide +kernel) ⟨Nat.le_of_ble_eq_true rfl, Nat.le_of_ble_eq_true rfl⟩) ⟨stW_blind nwM_ok, va_recv hK hP (ci := 8) (q0 := 0) rfl wMg0, stW_pass hA hS hN hK hP hD nwM_ok⟩ rfl rfl hl.1 rfl (lv_room (Nat.le_of_ble_eq_true rfl)) dX8_sample_78 ⟨Nat.le_of_ble_eq_true rfl, Nat.le_of_ble_eq_true rfl⟩) hS (fun σ2 H locs hq hP hD hS => ?_)
      refine lv_iconst (v := (1 : Int32)) hx hb dX8_sample_81 (by decide) ?_
      exact W.iret (v := (1 : Int32)) hx hb hr (fun t ht hW => ⟨⟨(1 : Int32), σ2, rfl, hq, by rw [ht]; exact hP, hD⟩, hS.F ht⟩) hS.2.2 dX8_sample_82
    · have hq := hq.2 hc
      refine lv_lload_n hx hb dX8_sample_29 rfl (lv_at hl 1 rfl) ?_
      refine lv_aload_n hx hb dX8_sample_30 rfl (lv_at hl 0 rfl) ?_
      refine lv_aload_n hx hb dX8_sample_31 rfl (lv_at hl 0 rfl) ?_
      refine va_get (D := D) (ci := 8) (v := .ref (ad 16)) (C := RX8) (T := TX8) (N := 32) hx hb hts hiX8 hown hK hP 0 wMg0 rfl 26 (by decide) (hts (.fieldLink RX8 74 "ArcGuesserModel" "founds" "[I") (List.mem_of_getElem? (i := 3) rfl)) (fun _ h9 => h9) rfl dX8_sample_32 ?_
      refine lv_iload hx hb dX8_sample_35 (lv_at hl 2 rfl) ?_
      refine va_iald hx hb hK hP 16 0 wMg16 rfl hq.1 dX8_sample_37 ?_
      have hq := hq.2
      refine lv_aload_n hx hb dX8_sample_38 rfl (lv_at hl 0 rfl) ?_
      refine va_get (D := D) (ci := 8) (v := .ref (ad 17)) (C := RX8) (T := TX8) (N := 32) hx hb hts hiX8 hown hK hP 0 wMg0 rfl 27 (by decide) (hts (.fieldLink RX8 77 "ArcGuesserModel" "empties" "[I") (List.mem_of_getElem? (i := 4) rfl)) (fun _ h9 => h9) rfl dX8_sample_39 ?_
      refine lv_aload_n hx hb dX8_sample_42 rfl (lv_at hl 0 rfl) ?_
      refine w_calli (va_runV (As := []) (rest := [.ref (ad 17), .int (σ.1 16 (v4).toNatClampNeg), .ref (ad 0), .long v2]) ⟨hx, hb, hml, hown, hts⟩ (mtX8_draw l D ad cA A σ  _ hq) (cwV 0 hts gX8_sample_X8_draw rfl rfl rfl (by decide +kernel) ⟨Nat.le_of_ble_eq_true rfl, Nat.le_of_ble_eq_true rfl⟩) ⟨stW_blind nwM_ok, va_recv hK hP (ci := 8) (q0 := 0) rfl wMg0, stW_pass hA hS hN hK hP hD nwM_ok⟩ rfl rfl hl.1 rfl (lv_room (Nat.le_of_ble_eq_true rfl)) dX8_sample_43 ⟨Nat.le_of_ble_eq_true rfl, Nat.le_of_ble_eq_true rfl⟩) hS (fun r3 σ3 H locs hq hP hD hS => ?_)
      refine lv_aload_n hx hb dX8_sample_46 rfl (lv_at hl 0 rfl) ?_
      refine va_get (D := D) (ci := 8) (v := .int (σ3.1 0 29)) (C := RX8) (T := TX8) (N := 32) hx hb hts hiX8 hown hK hP 0 wMg0 rfl 29 (by decide) (hts (.fieldLink RX8 208 "ArcGuesserModel" "emptyMany" "I") (List.mem_of_getElem? (i := 5) rfl)) (fun _ h9 => h9) rfl dX8_sample_47 ?_
      refine lv_irem hx hb dX8_sample_50 hq.1 ?_
      have hq := hq.2
      refine va_iald hx hb hK hP 17 0 wMg17 rfl hq.1 dX8_sample_51 ?_
      have hq := hq.2
      refine w_calll (va_runV (As := [.int (σ.1 16 (v4).toNatClampNeg), .int (σ3.1 17 ((r3 - r3 / (σ3.1 0 29) * (σ3.1 0 29))).toNatClampNeg)]) (rest := [.long v2]) ⟨hx, hb, hml, hown, hts⟩ (mtX8_wins l D ad cA A σ3 (σ.1 16 (v4).toNatClampNeg) (σ3.1 17 ((r3 - r3 / (σ3.1 0 29) * (σ3.1 0 29))).toNatClampNeg) _ hq) (cwV 2 hts gX8_sample_X8_wins rfl rfl rfl (by decide +kernel) ⟨Nat.le_of_ble_eq_true rfl, Nat.le_of_ble_eq_true rfl⟩) ⟨stW_blind nwM_ok, va_recv hK hP (ci := 8) (q0 := 0) rfl wMg0, stW_pass hA hS hN hK hP hD nwM_ok⟩ rfl rfl hl.1 rfl (lv_room (Nat.le_of_ble_eq_true rfl)) dX8_sample_52 ⟨Nat.le_of_ble_eq_true rfl, Nat.le_of_ble_eq_true rfl⟩) hS (fun r4 σ4 H locs hq hP hD hS => ?_)
      refine lv_ladd hx hb dX8_sample_55 ?_
      refine lv_lstore_n (lv' := [(2, .long (v2 + r4)), (0, .ref (ad 0)), (4, .int v4)]) hx hb dX8_sample_56 rfl hl (by decide) rfl (fun ls hl => ?_)
      refine lv_iinc (v := (v4 + (1 : Int32))) (lv' := [(4, .int (v4 + (1 : Int32))), (2, .long (v2 + r4)), (0, .ref (ad 0))]) hx hb dX8_sample_57 hl (k := 2) rfl (by rfl) (by decide) rfl (fun ls hl => ?_)
      refine lv_goto (tgt := 20) hx hb dX8_sample_60 (by decide) ?_
      rw [hK20] at hq
      exact hq _ _ _ hP hD hS (lv_sub hl [2, 1, 0] rfl)
  have hq := hwp K20 hk20
  refine lv_aload_n hx hb dX8_sample_0 rfl (lv_at hl 0 rfl) ?_
  refine w_calli (va_runV (As := []) (rest := []) ⟨hx, hb, hml, hown, hts⟩ (mtX8_parted l D ad cA A σ  _ hq) (cwV 0 hts gX8_sample_X8_parted rfl rfl rfl (by decide +kernel) ⟨Nat.le_of_ble_eq_true rfl, Nat.le_of_ble_eq_true rfl⟩) ⟨stW_blind nwM_ok, va_recv hK hP (ci := 8) (q0 := 0) rfl wMg0, stW_pass hA hS hN hK hP hD nwM_ok⟩ rfl rfl hl.1 rfl (lv_room (Nat.le_of_ble_eq_true rfl)) dX8_sample_1 ⟨Nat.le_of_ble_eq_true rfl, Nat.le_of_ble_eq_true rfl⟩) hS (fun r1 σ1 H locs hq hP hD hS => ?_)
  refine lv_if_ne (tgt := 10) hx hb dX8_sample_4 (by decide) (fun hc => ?_) (fun hc => ?_)
  · have hq := hq.1 hc
    refine lv_aload_n hx hb dX8_sample_10 rfl (lv_at hl 0 rfl) ?_
    refine lv_iload_n hx hb dX8_sample_11 rfl (lv_at hl 1 rfl) ?_
    refine va_put (D := D) (ci := 8) (v := .int p1) (ty := .int) (C := RX8) (T := TX8) (N := 32) hx hb hts hiX8 tyX8 tyX8_ok nmX8 hown hK hP hD hS 0 wMg0 rfl 18 (by decide) (hts (.fieldLink RX8 120 "ArcGuesserModel" "z" "I") (List.mem_of_getElem? (i := 1) rfl)) (fun _ h9 => h9) rfl (by decide +kernel) rfl rfl (Nat.le_of_ble_eq_true rfl) dX8_sample_12 (fun H locs hP hD hS => ?_)
    have hP := wMfP0_18 hP
    have hD := wMfD0_18 hD
    refine lv_lconst (v := (0 : Int64)) hx hb dX8_sample_15 (by decide) ?_
    refine lv_lstore_n (lv' := [(2, .long (0 : Int64)), (0, .ref (ad 0)), (1, .int p1)]) hx hb dX8_sample_16 rfl hl (by decide) rfl (fun ls hl => ?_)
    refine lv_iconst (v := (0 : Int32)) hx hb dX8_sample_17 (by decide) ?_
    refine lv_istore (lv' := [(4, .int (0 : Int32)), (2, .long (0 : Int64)), (0, .ref (ad 0)), (1, .int p1)]) hx hb dX8_sample_18 hl (by decide) rfl (fun ls hl => ?_)
    rw [hK20] at hq
    exact hq _ _ _ hP hD hS (lv_sub hl [2, 1, 0] rfl)
  · have hq := hq.2 hc
    refine lv_bipush (v := (-3 : Int32)) hx hb dX8_sample_7 (by decide) ?_
    exact W.iret (v := (-3 : Int32)) hx hb hr (fun t ht hW => ⟨⟨(-3 : Int32), σ1, rfl, hq, by rw [ht]; exact hP, hD⟩, hS.F ht⟩) hS.2.2 dX8_sample_9
