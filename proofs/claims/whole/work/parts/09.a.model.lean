/-! ArcGuesserModel.isPair(II)Z -/
def X8_isPair_wp (σ : Sto) (p1 : Int32) (p2 : Int32) (Post : Int32 → Sto → Prop) : Prop :=
  ((¬ (σ.1 0 1) = 0 → ((¬ (σ.1 0 1) = (1 : Int32) → ((((σ.1 0 0) / (2 : Int32)) ≤ p1 → (Post (0 : Int32) σ)) ∧ (¬ ((σ.1 0 0) / (2 : Int32)) ≤ p1 → ((p2 < ((σ.1 0 0) / (2 : Int32)) → (Post (0 : Int32) σ)) ∧ (¬ p2 < ((σ.1 0 0) / (2 : Int32)) → (Post (1 : Int32) σ)))))) ∧ ((σ.1 0 1) = (1 : Int32) → ((p1 = p2 → (Post (0 : Int32) σ)) ∧ (¬ p1 = p2 → (Post (1 : Int32) σ)))))) ∧ ((σ.1 0 1) = 0 → ((p2 ≤ p1 → (Post (0 : Int32) σ)) ∧ (¬ p2 ≤ p1 → (Post (1 : Int32) σ)))))
set_option maxHeartbeats 4000000 in
set_option maxRecDepth 100000 in
theorem mtX8_isPair (l : Launch) (D : va_G) (ad : Nat → Nat) (cA : Nat → ClassId) (A : Nat → Prop) (σ : Sto) (p1 : Int32) (p2 : Int32) (Post : Int32 → Sto → Prop) (hwp : X8_isPair_wp σ p1 p2 Post) : Met l yX8_isPair wsX8_isPair ({ frames := 0, cells := 0, slots := 0, locals := 0 }) (va_Pc [.ref (ad 0), .int p1, .int p2] (stW D (tyM cA) nwM (wM ad cA) A σ)) (va_Qi Post (enW D (wM ad cA) A) A) 0 0 A := by
  refine Met.ofW (cc := cX8_isPair) (maxL := 3) (ret := (some .boolean)) (by decide) rfl ?_
  intro p e s m args below meth c s₁ B hml hv
  obtain ⟨rfl, hA, hN, hP, hK, hD⟩ := hv
  have hx := B.exec
  have hb := B.bytes
  have hr := B.returns
  have hts := atoms_spec (ws := wsX8_isPair) B.pre
  have hown : s.vm.findClass RX8 = some m.cls := findClass_of_methodNamed B.named
  have hlocks := B.notSynchronized
  have hiX8 : ∀ w ∈ wsX80, w ∈ wsX8_isPair := by decide +kernel
  have hS : va_S A s.heap s.heap [] := va_S.rf
  have hl := lv_entry ([.ref (ad 0), .int p1, .int p2]) (n := 3) (Nat.le_of_ble_eq_true rfl)
  rw [lg_entry_eq]
  generalize (lg_sl ([.ref (ad 0), .int p1, .int p2]) ++ List.replicate (3 - (lg_sl ([.ref (ad 0), .int p1, .int p2])).length) Slot.unset).toArray = ls at hl ⊢
  have hl : lv_has ls 3 [(0, .ref (ad 0)), (1, .int p1), (2, .int p2)] := hl
  have hq := hwp
  unfold X8_isPair_wp at hq
  refine lv_aload_n hx hb dX8_isPair_0 rfl (lv_at hl 0 rfl) ?_
  refine va_get (D := D) (ci := 8) (v := .int (σ.1 0 1)) (C := RX8) (T := TX8) (N := 32) hx hb hts hiX8 hown hK hP 0 wMg0 rfl 1 (by decide) (hts (.fieldLink RX8 98 "ArcGuesserModel" "sort" "I") (List.mem_of_getElem? (i := 1) rfl)) (fun _ h9 => h9) rfl dX8_isPair_1 ?_
  refine lv_if_ne (tgt := 18) hx hb dX8_isPair_4 (by decide) (fun hc => ?_) (fun hc => ?_)
  · have hq := hq.1 hc
    refine lv_aload_n hx hb dX8_isPair_18 rfl (lv_at hl 0 rfl) ?_
    refine va_get (D := D) (ci := 8) (v := .int (σ.1 0 1)) (C := RX8) (T := TX8) (N := 32) hx hb hts hiX8 hown hK hP 0 wMg0 rfl 1 (by decide) (hts (.fieldLink RX8 98 "ArcGuesserModel" "sort" "I") (List.mem_of_getElem? (i := 1) rfl)) (fun _ h9 => h9) rfl dX8_isPair_19 ?_
    refine lv_iconst (v := (1 : Int32)) hx hb dX8_isPair_22 (by decide) ?_
    refine lv_icmp_ne (tgt := 39) hx hb dX8_isPair_23 (by decide) (fun hc => ?_) (fun hc => ?_)
    · have hq := hq.1 hc
      refine lv_iload_n hx hb dX8_isPair_39 rfl (lv_at hl 1 rfl) ?_
      refine lv_aload_n hx hb dX8_isPair_40 rfl (lv_at hl 0 rfl) ?_
      refine va_get (D := D) (ci := 8) (v := .int (σ.1 0 0)) (C := RX8) (T := TX8) (N := 32) hx hb hts hiX8 hown hK hP 0 wMg0 rfl 0 (by decide) (hts (.fieldLink RX8 7 "ArcGuesserModel" "n" "I") (List.mem_of_getElem? (i := 2) rfl)) (fun _ h9 => h9) rfl dX8_isPair_41 ?_
      refine lv_iconst (v := (2 : Int32)) hx hb dX8_isPair_44 (by decide) ?_
      refine lv_idiv hx hb dX8_isPair_45 (by decide) ?_
      refine lv_icmp_ge (tgt := 63) hx hb dX8_isPair_46 (by decide) (fun hc => ?_) (fun hc => ?_)
      · have hq := hq.1 hc
        refine lv_iconst (v := (0 : Int32)) hx hb dX8_isPair_63 (by decide) ?_
        exact W.zret (v := (0 : Int32)) hx hb hr rfl (fun t ht hW => ⟨⟨(0 : Int32), σ, rfl, hq, by rw [ht]; exact hP, hD⟩, hS.F ht⟩) hS.2.2 dX8_isPair_64
      · have hq := hq.2 hc
        refine lv_iload_n hx hb dX8_isPair_49 rfl (lv_at hl 2 rfl) ?_
        refine lv_aload_n hx hb dX8_isPair_50 rfl (lv_at hl 0 rfl) ?_
        refine va_get (D := D) (ci := 8) (v := .int (σ.1 0 0)) (C := RX8) (T := TX8) (N := 32) hx hb hts hiX8 hown hK hP 0 wMg0 rfl 0 (by decide) (hts (.fieldLink RX8 7 "ArcGuesserModel" "n" "I") (List.mem_of_getElem? (i := 2) rfl)) (fun _ h9 => h9) rfl dX8_isPair_51 ?_
        refine lv_iconst (v := (2 : Int32)) hx hb dX8_isPair_54 (by decide) ?_
        refine lv_idiv hx hb dX8_isPair_55 (by decide) ?_
        refine lv_icmp_lt (tgt := 63) hx hb dX8_isPair_56 (by decide) (fun hc => ?_) (fun hc => ?_)
        · have hq := hq.1 hc
          refine lv_iconst (v := (0 : Int32)) hx hb dX8_isPair_63 (by decide) ?_
          exact W.zret (v := (0 : Int32)) hx hb hr rfl (fun t ht hW => ⟨⟨(0 : Int32), σ, rfl, hq, by rw [ht]; exact hP, hD⟩, hS.F ht⟩) hS.2.2 dX8_isPair_64
        · have hq := hq.2 hc
          refine lv_iconst (v := (1 : Int32)) hx hb dX8_isPair_59 (by decide) ?_
          refine lv_goto (tgt := 64) hx hb dX8_isPair_60 (by decide) ?_
          exact W.zret (v := (1 : Int32)) hx hb hr rfl (fun t ht hW => ⟨⟨(1 : Int32), σ, rfl, hq, by rw [ht]; exact hP, hD⟩, hS.F ht⟩) hS.2.2 dX8_isPair_64
    · have hq := hq.2 hc
      refine lv_iload_n hx hb dX8_isPair_26 rfl (lv_at hl 1 rfl) ?_
      refine lv_iload_n hx hb dX8_isPair_27 rfl (lv_at hl 2 rfl) ?_
      refine lv_icmp_eq (tgt := 35) hx hb dX8_isPair_28 (by decide) (fun hc => ?_) (fun hc => ?_)
      · have hq := hq.1 hc
        refine lv_iconst (v := (0 : Int32)) hx hb dX8_isPair_35 (by decide) ?_
        refine lv_goto (tgt := 64) hx hb dX8_isPair_36 (by decide) ?_
        exact W.zret (v := (0 : Int32)) hx hb hr rfl (fun t ht hW => ⟨⟨(0 : Int32), σ, rfl, hq, by rw [ht]; exact hP, hD⟩, hS.F ht⟩) hS.2.2 dX8_isPair_64
      · have hq := hq.2 hc
        refine lv_iconst (v := (1 : Int32)) hx hb dX8_isPair_31 (by decide) ?_
        refine lv_goto (tgt := 64) hx hb dX8_isPair_32 (by decide) ?_
        exact W.zret (v := (1 : Int32)) hx hb hr rfl (fun t ht hW => ⟨⟨(1 : Int32), σ, rfl, hq, by rw [ht]; exact hP, hD⟩, hS.F ht⟩) hS.2.2 dX8_isPair_64
  · have hq := hq.2 hc
    refine lv_iload_n hx hb dX8_isPair_7 rfl (lv_at hl 1 rfl) ?_
    refine lv_iload_n hx hb dX8_isPair_8 rfl (lv_at hl 2 rfl) ?_
    refine lv_icmp_ge (tgt := 16) hx hb dX8_isPair_9 (by decide) (fun hc => ?_) (fun hc => ?_)
    · have hq := hq.1 hc
      refine lv_iconst (v := (0 : Int32)) hx hb dX8_isPair_16 (by decide) ?_
      exact W.zret (v := (0 : Int32)) hx hb hr rfl (fun t ht hW => ⟨⟨(0 : Int32), σ, rfl, hq, by rw [ht]; exact hP, hD⟩, hS.F ht⟩) hS.2.2 dX8_isPair_17
    · have hq := hq.2 hc
      refine lv_iconst (v := (1 : Int32)) hx hb dX8_isPair_12 (by decide) ?_
      refine lv_goto (tgt := 17) hx hb dX8_isPair_13 (by decide) ?_
      exact W.zret (v := (1 : Int32)) hx hb hr rfl (fun t ht hW => ⟨⟨(1 : Int32), σ, rfl, hq, by rw [ht]; exact hP, hD⟩, hS.F ht⟩) hS.2.2 dX8_isPair_17
/-! ArcGuesserModel.leads(II)Z -/
def X8_leads_wp (σ : Sto) (p1 : Int32) (p2 : Int32) (Post : Int32 → Sto → Prop) : Prop :=
  (vp_in (((12 : Int32) * p1) + p2) 144 ∧ (((σ.1 1 ((((12 : Int32) * p1) + p2)).toNatClampNeg) ≤ 0 → (Post (0 : Int32) σ)) ∧ (¬ (σ.1 1 ((((12 : Int32) * p1) + p2)).toNatClampNeg) ≤ 0 → (vp_in ((σ.1 1 ((((12 : Int32) * p1) + p2)).toNatClampNeg) - (1 : Int32)) 132 ∧ ((¬ (σ.1 5 (((σ.1 1 ((((12 : Int32) * p1) + p2)).toNatClampNeg) - (1 : Int32))).toNatClampNeg) = 0 → (Post (0 : Int32) σ)) ∧ ((σ.1 5 (((σ.1 1 ((((12 : Int32) * p1) + p2)).toNatClampNeg) - (1 : Int32))).toNatClampNeg) = 0 → (Post (1 : Int32) σ)))))))
set_option maxHeartbeats 4000000 in
set_option maxRecDepth 100000 in
theorem mtX8_leads (l : Launch) (D : va_G) (ad : Nat → Nat) (cA : Nat → ClassId) (A : Nat → Prop) (σ : Sto) (p1 : Int32) (p2 : Int32) (Post : Int32 → Sto → Prop) (hwp : X8_leads_wp σ p1 p2 Post) : Met l yX8_leads wsX8_leads ({ frames := 0, cells := 0, slots := 0, locals := 0 }) (va_Pc [.ref (ad 0), .int p1, .int p2] (stW D (tyM cA) nwM (wM ad cA) A σ)) (va_Qi Post (enW D (wM ad cA) A) A) 0 0 A := by
  refine Met.ofW (cc := cX8_leads) (maxL := 4) (ret := (some .boolean)) (by decide) rfl ?_
  intro p e s m args below meth c s₁ B hml hv
  obtain ⟨rfl, hA, hN, hP, hK, hD⟩ := hv
  have hx := B.exec
  have hb := B.bytes
  have hr := B.returns
  have hts := atoms_spec (ws := wsX8_leads) B.pre
  have hown : s.vm.findClass RX8 = some m.cls := findClass_of_methodNamed B.named
  have hlocks := B.notSynchronized
  have hiX8 : ∀ w ∈ wsX80, w ∈ wsX8_leads := by decide +kernel
  have hS : va_S A s.heap s.heap [] := va_S.rf
  have hl := lv_entry ([.ref (ad 0), .int p1, .int p2]) (n := 4) (Nat.le_of_ble_eq_true rfl)
  rw [lg_entry_eq]
  generalize (lg_sl ([.ref (ad 0), .int p1, .int p2]) ++ List.replicate (4 - (lg_sl ([.ref (ad 0), .int p1, .int p2])).length) Slot.unset).toArray = ls at hl ⊢
  have hl : lv_has ls 4 [(0, .ref (ad 0)), (1, .int p1), (2, .int p2)] := hl
  have hq := hwp
  unfold X8_leads_wp at hq
  refine lv_aload_n hx hb dX8_leads_0 rfl (lv_at hl 0 rfl) ?_
  refine va_get (D := D) (ci := 8) (v := .ref (ad 1)) (C := RX8) (T := TX8) (N := 32) hx hb hts hiX8 hown hK hP 0 wMg0 rfl 2 (by decide) (hts (.fieldLink RX8 13 "ArcGuesserModel" "arcAt" "[I") (List.mem_of_getElem? (i := 1) rfl)) (fun _ h9 => h9) rfl dX8_leads_1 ?_
  refine lv_bipush (v := (12 : Int32)) hx hb dX8_leads_4 (by decide) ?_
  refine lv_iload_n hx hb dX8_leads_6 rfl (lv_at hl 1 rfl) ?_
  refine lv_imul hx hb dX8_leads_7 ?_
  refine lv_iload_n hx hb dX8_leads_8 rfl (lv_at hl 2 rfl) ?_
  refine lv_iadd hx hb dX8_leads_9 ?_
  refine va_iald hx hb hK hP 1 0 wMg1 rfl hq.1 dX8_leads_10 ?_
  have hq := hq.2
  refine lv_istore_n (lv' := [(3, .int (σ.1 1 ((((12 : Int32) * p1) + p2)).toNatClampNeg)), (0, .ref (ad 0)), (1, .int p1), (2, .int p2)]) hx hb dX8_leads_11 rfl hl (by decide) rfl (fun ls hl => ?_)
  refine lv_iload_n hx hb dX8_leads_12 rfl (lv_at hl 0 rfl) ?_
  refine lv_if_le (tgt := 31) hx hb dX8_leads_13 (by decide) (fun hc => ?_) (fun hc => ?_)
  · have hq := hq.1 hc
    refine lv_iconst (v := (0 : Int32)) hx hb dX8_leads_31 (by decide) ?_
    exact W.zret (v := (0 : Int32)) hx hb hr rfl (fun t ht hW => ⟨⟨(0 : Int32), σ, rfl, hq, by rw [ht]; exact hP, hD⟩, hS.F ht⟩) hS.2.2 dX8_leads_32
  · have hq := hq.2 hc
    refine lv_aload_n hx hb dX8_leads_16 rfl (lv_at hl 1 rfl) ?_
    refine va_get (D := D) (ci := 8) (v := .ref (ad 5)) (C := RX8) (T := TX8) (N := 32) hx hb hts hiX8 hown hK hP 0 wMg0 rfl 6 (by decide) (hts (.fieldLink RX8 26 "ArcGuesserModel" "hidden" "[Z") (List.mem_of_getElem? (i := 2) rfl)) (fun _ h9 => h9) rfl dX8_leads_17 ?_
    refine lv_iload_n hx hb dX8_leads_20 rfl (lv_at hl 0 rfl) ?_
    refine lv_iconst (v := (1 : Int32)) hx hb dX8_leads_21 (by decide) ?_
    refine lv_isub hx hb dX8_leads_22 ?_
    refine va_zald hx hb hK hP 5 2 wMg5 rfl hq.1 dX8_leads_23 ?_
    have hq := hq.2
    refine lv_if_ne (tgt := 31) hx hb dX8_leads_24 (by decide) (fun hc => ?_) (fun hc => ?_)
    · have hq := hq.1 hc
      refine lv_iconst (v := (0 : Int32)) hx hb dX8_leads_31 (by decide) ?_
      exact W.zret (v := (0 : Int32)) hx hb hr rfl (fun t ht hW => ⟨⟨(0 : Int32), σ, rfl, hq, by rw [ht]; exact hP, hD⟩, hS.F ht⟩) hS.2.2 dX8_leads_32
    · have hq := hq.2 hc
      refine lv_iconst (v := (1 : Int32)) hx hb dX8_leads_27 (by decide) ?_
      refine lv_goto (tgt := 32) hx hb dX8_leads_28 (by decide) ?_
      exact W.zret (v := (1 : Int32)) hx hb hr rfl (fun t ht hW => ⟨⟨(1 : Int32), σ, rfl, hq, by rw [ht]; exact hP, hD⟩, hS.F ht⟩) hS.2.2 dX8_leads_32
/-! ArcGuesserModel.isCandidate(II)Z -/
def X8_isCandidate_wp (σ : Sto) (p1 : Int32) (p2 : Int32) (Post : Int32 → Sto → Prop) : Prop :=
  (X8_leads_wp σ p1 p2 (fun r1 σ1 => ((¬ r1 = 0 → (Post (0 : Int32) σ1)) ∧ (r1 = 0 → (Post (1 : Int32) σ1)))))
set_option maxHeartbeats 4000000 in
set_option maxRecDepth 100000 in
theorem mtX8_isCandidate (l : Launch) (D : va_G) (ad : Nat → Nat) (cA : Nat → ClassId) (A : Nat → Prop) (σ : Sto) (p1 : Int32) (p2 : Int32) (Post : Int32 → Sto → Prop) (hwp : X8_isCandidate_wp σ p1 p2 Post) : Met l yX8_isCandidate wsX8_isCandidate ({ frames := 1, cells := 0, slots := 0, locals := 23 }) (va_Pc [.ref (ad 0), .int p1, .int p2] (stW D (tyM cA) nwM (wM ad cA) A σ)) (va_Qi Post (enW D (wM ad cA) A) A) 0 0 A := by
  refine Met.ofW (cc := cX8_isCandidate) (maxL := 3) (ret := (some .boolean)) (by decide) rfl ?_
  intro p e s m args below meth c s₁ B hml hv
  obtain ⟨rfl, hA, hN, hP, hK, hD⟩ := hv
  have hx := B.exec
  have hb := B.bytes
  have hr := B.returns
  have hts := atoms_spec (ws := wsX8_isCandidate) B.pre
  have hown : s.vm.findClass RX8 = some m.cls := findClass_of_methodNamed B.named
  have hlocks := B.notSynchronized
  have hS : va_S A s.heap s.heap [] := va_S.rf
  have hl := lv_entry ([.ref (ad 0), .int p1, .int p2]) (n := 3) (Nat.le_of_ble_eq_true rfl)
  rw [lg_entry_eq]
  generalize (lg_sl ([.ref (ad 0), .int p1, .int p2]) ++ List.replicate (3 - (lg_sl ([.ref (ad 0), .int p1, .int p2])).length) Slot.unset).toArray = ls at hl ⊢
  have hl : lv_has ls 3 [(0, .ref (ad 0)), (1, .int p1), (2, .int p2)] := hl
  have hq := hwp
  unfold X8_isCandidate_wp at hq
  refine lv_aload_n hx hb dX8_isCandidate_0 rfl (lv_at hl 0 rfl) ?_
  refine lv_iload_n hx hb dX8_isCandidate_1 rfl (lv_at hl 1 rfl) ?_
  refine lv_iload_n hx hb dX8_isCandidate_2 rfl (lv_at hl 2 rfl) ?_
  refine w_calli (va_runV (As := [.int p1, .int p2]) (rest := []) ⟨hx, hb, hml, hown, hts⟩ (mtX8_leads l D ad cA A σ p1 p2 _ hq) (cwV 2 hts gX8_isCandidate_X8_leads rfl rfl rfl (by decide +kernel) ⟨Nat.le_of_ble_eq_true rfl, Nat.le_of_ble_eq_true rfl⟩) ⟨stW_blind nwM_ok, va_recv hK hP (ci := 8) (q0 := 0) rfl wMg0, stW_pass hA hS hN hK hP hD nwM_ok⟩ rfl rfl hl.1 rfl (lv_room (Nat.le_of_ble_eq_true rfl)) dX8_isCandidate_3 ⟨Nat.le_of_ble_eq_true rfl, Nat.le_of_ble_eq_true rfl⟩) hS (fun r1 σ1 H locs hq hP hD hS => ?_)
  refine lv_if_ne (tgt := 13) hx hb dX8_isCandidate_6 (by decide) (fun hc => ?_) (fun hc => ?_)
  · have hq := hq.1 hc
    refine lv_iconst (v := (0 : Int32)) hx hb dX8_isCandidate_13 (by decide) ?_
    exact W.zret (v := (0 : Int32)) hx hb hr rfl (fun t ht hW => ⟨⟨(0 : Int32), σ1, rfl, hq, by rw [ht]; exact hP, hD⟩, hS.F ht⟩) hS.2.2 dX8_isCandidate_14
  · have hq := hq.2 hc
    refine lv_iconst (v := (1 : Int32)) hx hb dX8_isCandidate_9 (by decide) ?_
    refine lv_goto (tgt := 14) hx hb dX8_isCandidate_10 (by decide) ?_
    exact W.zret (v := (1 : Int32)) hx hb hr rfl (fun t ht hW => ⟨⟨(1 : Int32), σ1, rfl, hq, by rw [ht]; exact hP, hD⟩, hS.F ht⟩) hS.2.2 dX8_isCandidate_14
/-! ArcGuesserModel.isNode(I)Z -/
def X8_isNode_wp (σ : Sto) (p1 : Int32) (Post : Int32 → Sto → Prop) : Prop :=
  ((p1 < 0 → (Post (0 : Int32) σ)) ∧ (¬ p1 < 0 → (((σ.1 0 0) ≤ p1 → (Post (0 : Int32) σ)) ∧ (¬ (σ.1 0 0) ≤ p1 → (Post (1 : Int32) σ)))))
set_option maxHeartbeats 4000000 in
set_option maxRecDepth 100000 in
theorem mtX8_isNode (l : Launch) (D : va_G) (ad : Nat → Nat) (cA : Nat → ClassId) (A : Nat → Prop) (σ : Sto) (p1 : Int32) (Post : Int32 → Sto → Prop) (hwp : X8_isNode_wp σ p1 Post) : Met l yX8_isNode wsX8_isNode ({ frames := 0, cells := 0, slots := 0, locals := 0 }) (va_Pc [.ref (ad 0), .int p1] (stW D (tyM cA) nwM (wM ad cA) A σ)) (va_Qi Post (enW D (wM ad cA) A) A) 0 0 A := by
  refine Met.ofW (cc := cX8_isNode) (maxL := 2) (ret := (some .boolean)) (by decide) rfl ?_
  intro p e s m args below meth c s₁ B hml hv
  obtain ⟨rfl, hA, hN, hP, hK, hD⟩ := hv
  have hx := B.exec
  have hb := B.bytes
  have hr := B.returns
  have hts := atoms_spec (ws := wsX8_isNode) B.pre
  have hown : s.vm.findClass RX8 = some m.cls := findClass_of_methodNamed B.named
  have hlocks := B.notSynchronized
  have hiX8 : ∀ w ∈ wsX80, w ∈ wsX8_isNode := by decide +kernel
  have hS : va_S A s.heap s.heap [] := va_S.rf
  have hl := lv_entry ([.ref (ad 0), .int p1]) (n := 2) (Nat.le_of_ble_eq_true rfl)
  rw [lg_entry_eq]
  generalize (lg_sl ([.ref (ad 0), .int p1]) ++ List.replicate (2 - (lg_sl ([.ref (ad 0), .int p1])).length) Slot.unset).toArray = ls at hl ⊢
  have hl : lv_has ls 2 [(0, .ref (ad 0)), (1, .int p1)] := hl
  have hq := hwp
  unfold X8_isNode_wp at hq
  refine lv_iload_n hx hb dX8_isNode_0 rfl (lv_at hl 1 rfl) ?_
  refine lv_if_lt (tgt := 16) hx hb dX8_isNode_1 (by decide) (fun hc => ?_) (fun hc => ?_)
  · have hq := hq.1 hc
    refine lv_iconst (v := (0 : Int32)) hx hb dX8_isNode_16 (by decide) ?_
    exact W.zret (v := (0 : Int32)) hx hb hr rfl (fun t ht hW => ⟨⟨(0 : Int32), σ, rfl, hq, by rw [ht]; exact hP, hD⟩, hS.F ht⟩) hS.2.2 dX8_isNode_17
  · have hq := hq.2 hc
    refine lv_iload_n hx hb dX8_isNode_4 rfl (lv_at hl 1 rfl) ?_
    refine lv_aload_n hx hb dX8_isNode_5 rfl (lv_at hl 0 rfl) ?_
    refine va_get (D := D) (ci := 8) (v := .int (σ.1 0 0)) (C := RX8) (T := TX8) (N := 32) hx hb hts hiX8 hown hK hP 0 wMg0 rfl 0 (by decide) (hts (.fieldLink RX8 7 "ArcGuesserModel" "n" "I") (List.mem_of_getElem? (i := 1) rfl)) (fun _ h9 => h9) rfl dX8_isNode_6 ?_
    refine lv_icmp_ge (tgt := 16) hx hb dX8_isNode_9 (by decide) (fun hc => ?_) (fun hc => ?_)
    · have hq := hq.1 hc
      refine lv_iconst (v := (0 : Int32)) hx hb dX8_isNode_16 (by decide) ?_
      exact W.zret (v := (0 : Int32)) hx hb hr rfl (fun t ht hW => ⟨⟨(0 : Int32), σ, rfl, hq, by rw [ht]; exact hP, hD⟩, hS.F ht⟩) hS.2.2 dX8_isNode_17
    · have hq := hq.2 hc
      refine lv_iconst (v := (1 : Int32)) hx hb dX8_isNode_12 (by decide) ?_
      refine lv_goto (tgt := 17) hx hb dX8_isNode_13 (by decide) ?_
      exact W.zret (v := (1 : Int32)) hx hb hr rfl (fun t ht hW => ⟨⟨(1 : Int32), σ, rfl, hq, by rw [ht]; exact hP, hD⟩, hS.F ht⟩) hS.2.2 dX8_isNode_17
/-! ArcGuesserModel.isInB(II)Z -/
def X8_isInB_b37 (p1 : Int32) (p2 : Int32) (K37 : Sto → Int32 → Int32 → Prop) (Post : Int32 → Sto → Prop) (σ : Sto) (v3 : Int32) (v4 : Int32) : Prop :=
  ((((σ.1 0 0) / (2 : Int32)) ≤ v4 → (narrow .boolean (.int v3) = .int v3 ∧ (Post v3 σ))) ∧ (¬ ((σ.1 0 0) / (2 : Int32)) ≤ v4 → ((¬ v3 = 0 → (K37 σ (1 : Int32) (v4 + (1 : Int32)))) ∧ (v3 = 0 → (X8_leads_wp σ v4 p2 (fun r1 σ1 => ((r1 = 0 → (K37 σ1 (0 : Int32) (v4 + (1 : Int32)))) ∧ (¬ r1 = 0 → (X8_leads_wp σ1 v4 p1 (fun r2 σ2 => ((r2 = 0 → (K37 σ2 (0 : Int32) (v4 + (1 : Int32)))) ∧ (¬ r2 = 0 → (K37 σ2 (1 : Int32) (v4 + (1 : Int32)))))))))))))))
def X8_isInB_wp (σ : Sto) (p1 : Int32) (p2 : Int32) (Post : Int32 → Sto → Prop) : Prop := ∀ (K37 : Sto → Int32 → Int32 → Prop), (∀ (σ : Sto) (v3 : Int32) (v4 : Int32), X8_isInB_b37 p1 p2 K37 Post σ v3 v4 → K37 σ v3 v4) → 
  (((2 : Int32) ≤ (σ.1 0 1) → ((p1 = p2 → (Post (0 : Int32) σ)) ∧ (¬ p1 = p2 → ((((σ.1 0 0) / (2 : Int32)) ≤ p1 → (K37 σ (0 : Int32) (0 : Int32))) ∧ (¬ ((σ.1 0 0) / (2 : Int32)) ≤ p1 → (Post (0 : Int32) σ)))))) ∧ (¬ (2 : Int32) ≤ (σ.1 0 1) → (X8_leads_wp σ p1 p2 (fun r1 σ1 => (narrow .boolean (.int r1) = .int r1 ∧ (Post r1 σ1))))))
set_option maxHeartbeats 4000000 in
set_option maxRecDepth 100000 in
theorem mtX8_isInB (l : Launch) (D : va_G) (ad : Nat → Nat) (cA : Nat → ClassId) (A : Nat → Prop) (σ : Sto) (p1 : Int32) (p2 : Int32) (Post : Int32 → Sto → Prop) (hwp : X8_isInB_wp σ p1 p2 Post) : Met l yX8_isInB wsX8_isInB ({ frames := 1, cells := 0, slots := 0, locals := 23 }) (va_Pc [.ref (ad 0), .int p1, .int p2] (stW D (tyM cA) nwM (wM ad cA) A σ)) (va_Qi Post (enW D (wM ad cA) A) A) 0 0 A := by
  refine Met.ofW (cc := cX8_isInB) (maxL := 5) (ret := (some .boolean)) (by decide) rfl ?_
  intro p e s m args below meth c s₁ B hml hv
  obtain ⟨rfl, hA, hN, hP, hK, hD⟩ := hv
  have hx := B.exec
  have hb := B.bytes
  have hr := B.returns
  have hts := atoms_spec (ws := wsX8_isInB) B.pre
  have hown : s.vm.findClass RX8 = some m.cls := findClass_of_methodNamed B.named
  have hlocks := B.notSynchronized
  have hiX8 : ∀ w ∈ wsX80, w ∈ wsX8_isInB := by decide +kernel
  have hS : va_S A s.heap s.heap [] := va_S.rf
  have hl := lv_entry ([.ref (ad 0), .int p1, .int p2]) (n := 5) (Nat.le_of_ble_eq_true rfl)
  rw [lg_entry_eq]
  generalize (lg_sl ([.ref (ad 0), .int p1, .int p2]) ++ List.replicate (5 - (lg_sl ([.ref (ad 0), .int p1, .int p2])).length) Slot.unset).toArray = ls at hl ⊢
  have hl : lv_has ls 5 [(0, .ref (ad 0)), (1, .int p1), (2, .int p2)] := hl
  obtain ⟨K37, hK37⟩ : ∃ K : Sto → Int32 → Int32 → Prop, K = fun (σ : Sto) (v3 : Int32) (v4 : Int32) => ∀ (H : Heap) (locs : List Loc) (ls : Array Slot), va_P D vwCl ((wM ad cA) σ) H → va_D A ((wM ad cA) σ) → va_S A s.heap H locs → lv_has ls 5 [(0, .ref (ad 0)), (1, .int p1), (2, .int p2), (3, .int v3), (4, .int v4)] → W p l e (headSpec wsX8_isInB ({ frames := 1, cells := 0, slots := 0, locals := 23 })).room s m ([.ref (ad 0), .int p1, .int p2] : List Value).toArray below meth c H locs 0 0 (MQ below (va_Qi Post (enW D (wM ad cA) A) A) ([.ref (ad 0), .int p1, .int p2] : List Value).toArray s 0 0 A) (F0 m 37 ls []) := ⟨_, rfl⟩
  have hk37 : ∀ (σ : Sto) (v3 : Int32) (v4 : Int32), X8_isInB_b37 p1 p2 K37 Post σ v3 v4 → K37 σ v3 v4 := by
    intro σ v3 v4 hq
    rw [hK37]
    intro H locs ls hP hD hS hl
    unfold X8_isInB_b37 at hq
    refine lv_iload hx hb dX8_isInB_37 (lv_at hl 4 rfl) ?_
    refine lv_aload_n hx hb dX8_isInB_39 rfl (lv_at hl 0 rfl) ?_
    refine va_get (D := D) (ci := 8) (v := .int (σ.1 0 0)) (C := RX8) (T := TX8) (N := 32) hx hb hts hiX8 hown hK hP 0 wMg0 rfl 0 (by decide) (hts (.fieldLink RX8 7 "ArcGuesserModel" "n" "I") (List.mem_of_getElem? (i := 2) rfl)) (fun _ h9 => h9) rfl dX8_isInB_40 ?_
    refine lv_iconst (v := (2 : Int32)) hx hb dX8_isInB_43 (by decide) ?_
    refine lv_idiv hx hb dX8_isInB_44 (by decide) ?_
    refine lv_icmp_ge (tgt := 84) hx hb dX8_isInB_45 (by decide) (fun hc => ?_) (fun hc => ?_)
    · have hq := hq.1 hc
      refine lv_iload_n hx hb dX8_isInB_84 rfl (lv_at hl 3 rfl) ?_
      exact W.zret (v := v3) hx hb hr hq.1 (fun t ht hW => ⟨⟨v3, σ, rfl, hq.2, by rw [ht]; exact hP, hD⟩, hS.F ht⟩) hS.2.2 dX8_isInB_85
    · have hq := hq.2 hc
      refine lv_iload_n hx hb dX8_isInB_48 rfl (lv_at hl 3 rfl) ?_
      refine lv_if_ne (tgt := 72) hx hb dX8_isInB_49 (by decide) (fun hc => ?_) (fun hc => ?_)
      · have hq := hq.1 hc
        refine lv_iconst (v := (1 : Int32)) hx hb dX8_isInB_72 (by decide) ?_
        refine lv_goto (tgt := 77) hx hb dX8_isInB_73 (by decide) ?_
        refine lv_istore_n (lv' := [(3, .int (1 : Int32)), (0, .ref (ad 0)), (1, .int p1), (2, .int p2), (4, .int v4)]) hx hb dX8_isInB_77 rfl hl (by decide) rfl (fun ls hl => ?_)
        refine lv_iinc (v := (v4 + (1 : Int32))) (lv' := [(4, .int (v4 + (1 : Int32))), (3, .int (1 : Int32)), (0, .ref (ad 0)), (1, .int p1), (2, .int p2)]) hx hb dX8_isInB_78 hl (k := 4) rfl (by rfl) (by decide) rfl (fun ls hl => ?_)
        refine lv_goto (tgt := 37) hx hb dX8_isInB_81 (by decide) ?_
        rw [hK37] at hq
        exact hq _ _ _ hP hD hS (lv_sub hl [2, 3, 4, 1, 0] rfl)
      · have hq := hq.2 hc
        refine lv_aload_n hx hb dX8_isInB_52 rfl (lv_at hl 0 rfl) ?_
        refine lv_iload hx hb dX8_isInB_53 (lv_at hl 4 rfl) ?_
        refine lv_iload_n hx hb dX8_isInB_55 rfl (lv_at hl 2 rfl) ?_
        refine w_calli (va_runV (As := [.int v4, .int p2]) (rest := []) ⟨hx, hb, hml, hown, hts⟩ (mtX8_leads l D ad cA A σ v4 p2 _ hq) (cwV 2 hts gX8_isInB_X8_leads rfl rfl rfl (by decide +kernel) ⟨Nat.le_of_ble_eq_true rfl, Nat.le_of_ble_eq_true rfl⟩) ⟨stW_blind nwM_ok, va_recv hK hP (ci := 8) (q0 := 0) rfl wMg0, stW_pass hA hS hN hK hP hD nwM_ok⟩ rfl rfl hl.1 rfl (lv_room (Nat.le_of_ble_eq_true rfl)) dX8_isInB_56 ⟨Nat.le_of_ble_eq_true rfl, Nat.le_of_ble_eq_true rfl⟩) hS (fun r1 σ1 H locs hq hP hD hS => ?_)
        refine lv_if_eq (tgt := 76) hx hb dX8_isInB_59 (by decide) (fun hc => ?_) (fun hc => ?_)
        · have hq := hq.1 hc
          refine lv_iconst (v := (0 : Int32)) hx hb dX8_isInB_76 (by decide) ?_
          refine lv_istore_n (lv' := [(3, .int (0 : Int32)), (0, .ref (ad 0)), (1, .int p1), (2, .int p2), (4, .int v4)]) hx hb dX8_isInB_77 rfl hl (by decide) rfl (fun ls hl => ?_)
          refine lv_iinc (v := (v4 + (1 : Int32))) (lv' := [(4, .int (v4 + (1 : Int32))), (3, .int (0 : Int32)), (0, .ref (ad 0)), (1, .int p1), (2, .int p2)]) hx hb dX8_isInB_78 hl (k := 4) rfl (by rfl) (by decide) rfl (fun ls hl => ?_)
          refine lv_goto (tgt := 37) hx hb dX8_isInB_81 (by decide) ?_
          rw [hK37] at hq
          exact hq _ _ _ hP hD hS (lv_sub hl [2, 3, 4, 1, 0] rfl)
        · have hq := hq.2 hc
          refine lv_aload_n hx hb dX8_isInB_62 rfl (lv_at hl 0 rfl) ?_
          refine lv_iload hx hb dX8_isInB_63 (lv_at hl 4 rfl) ?_
          refine lv_iload_n hx hb dX8_isInB_65 rfl (lv_at hl 1 rfl) ?_
          refine w_calli (va_runV (As := [.int v4, .int p1]) (rest := []) ⟨hx, hb, hml, hown, hts⟩ (mtX8_leads l D ad cA A σ1 v4 p1 _ hq) (cwV 2 hts gX8_isInB_X8_leads rfl rfl rfl (by decide +kernel) ⟨Nat.le_of_ble_eq_true rfl, Nat.le_of_ble_eq_true rfl⟩) ⟨stW_blind nwM_ok, va_recv hK hP (ci := 8) (q0 := 0) rfl wMg0, stW_pass hA hS hN hK hP hD nwM_ok⟩ rfl rfl hl.1 rfl (lv_room (Nat.le_of_ble_eq_true rfl)) dX8_isInB_66 ⟨Nat.le_of_ble_eq_true rfl, Nat.le_of_ble_eq_true rfl⟩) hS (fun r2 σ2 H locs hq hP hD hS => ?_)
          refine lv_if_eq (tgt := 76) hx hb dX8_isInB_69 (by decide) (fun hc => ?_) (fun hc => ?_)
          · have hq := hq.1 hc
            refine lv_iconst (v := (0 : Int32)) hx hb dX8_isInB_76 (by decide) ?_
            refine lv_istore_n (lv' := [(3, .int (0 : Int32)), (0, .ref (ad 0)), (1, .int p1), (2, .int p2), (4, .int v4)]) hx hb dX8_isInB_77 rfl hl (by decide) rfl (fun ls hl => ?_)
            refine lv_iinc (v := (v4 + (1 : Int32))) (lv' := [(4, .int (v4 + (1 : Int32))), (3, .int (0 : Int32)), (0, .ref (ad 0)), (1, .int p1), (2, .int p2)]) hx hb dX8_isInB_78 hl (k := 4) rfl (by rfl) (by decide) rfl (fun ls hl => ?_)
            refine lv_goto (tgt := 37) hx hb dX8_isInB_81 (by decide) ?_
            rw [hK37] at hq
            exact hq _ _ _ hP hD hS (lv_sub hl [2, 3, 4, 1, 0] rfl)
          · have hq := hq.2 hc
            refine lv_iconst (v := (1 : Int32)) hx hb dX8_isInB_72 (by decide) ?_
            refine lv_goto (tgt := 77) hx hb dX8_isInB_73 (by decide) ?_
            refine lv_istore_n (lv' := [(3, .int (1 : Int32)), (0, .ref (ad 0)), (1, .int p1), (2, .int p2), (4, .int v4)]) hx hb dX8_isInB_77 rfl hl (by decide) rfl (fun ls hl => ?_)
            refine lv_iinc (v := (v4 + (1 : Int32))) (lv' := [(4, .int (v4 + (1 : Int32))), (3, .int (1 : Int32)), (0, .ref (ad 0)), (1, .int p1), (2, .int p2)]) hx hb dX8_isInB_78 hl (k := 4) rfl (by rfl) (by decide) rfl (fun ls hl => ?_)
            refine lv_goto (tgt := 37) hx hb dX8_isInB_81 (by decide) ?_
            rw [hK37] at hq
            exact hq _ _ _ hP hD hS (lv_sub hl [2, 3, 4, 1, 0] rfl)
  have hq := hwp K37 hk37
  refine lv_aload_n hx hb dX8_isInB_0 rfl (lv_at hl 0 rfl) ?_
  refine va_get (D := D) (ci := 8) (v := .int (σ.1 0 1)) (C := RX8) (T := TX8) (N := 32) hx hb hts hiX8 hown hK hP 0 wMg0 rfl 1 (by decide) (hts (.fieldLink RX8 98 "ArcGuesserModel" "sort" "I") (List.mem_of_getElem? (i := 1) rfl)) (fun _ h9 => h9) rfl dX8_isInB_1 ?_
  refine lv_iconst (v := (2 : Int32)) hx hb dX8_isInB_4 (by decide) ?_
  refine lv_icmp_ge (tgt := 15) hx hb dX8_isInB_5 (by decide) (fun hc => ?_) (fun hc => ?_)
  · have hq := hq.1 hc
    refine lv_iload_n hx hb dX8_isInB_15 rfl (lv_at hl 1 rfl) ?_
    refine lv_iload_n hx hb dX8_isInB_16 rfl (lv_at hl 2 rfl) ?_
    refine lv_icmp_eq (tgt := 30) hx hb dX8_isInB_17 (by decide) (fun hc => ?_) (fun hc => ?_)
    · have hq := hq.1 hc
      refine lv_iconst (v := (0 : Int32)) hx hb dX8_isInB_30 (by decide) ?_
      exact W.zret (v := (0 : Int32)) hx hb hr rfl (fun t ht hW => ⟨⟨(0 : Int32), σ, rfl, hq, by rw [ht]; exact hP, hD⟩, hS.F ht⟩) hS.2.2 dX8_isInB_31
    · have hq := hq.2 hc
      refine lv_iload_n hx hb dX8_isInB_20 rfl (lv_at hl 1 rfl) ?_
      refine lv_aload_n hx hb dX8_isInB_21 rfl (lv_at hl 0 rfl) ?_
      refine va_get (D := D) (ci := 8) (v := .int (σ.1 0 0)) (C := RX8) (T := TX8) (N := 32) hx hb hts hiX8 hown hK hP 0 wMg0 rfl 0 (by decide) (hts (.fieldLink RX8 7 "ArcGuesserModel" "n" "I") (List.mem_of_getElem? (i := 2) rfl)) (fun _ h9 => h9) rfl dX8_isInB_22 ?_
      refine lv_iconst (v := (2 : Int32)) hx hb dX8_isInB_25 (by decide) ?_
      refine lv_idiv hx hb dX8_isInB_26 (by decide) ?_
      refine lv_icmp_ge (tgt := 32) hx hb dX8_isInB_27 (by decide) (fun hc => ?_) (fun hc => ?_)
      · have hq := hq.1 hc
        refine lv_iconst (v := (0 : Int32)) hx hb dX8_isInB_32 (by decide) ?_
        refine lv_istore_n (lv' := [(3, .int (0 : Int32)), (0, .ref (ad 0)), (1, .int p1), (2, .int p2)]) hx hb dX8_isInB_33 rfl hl (by decide) rfl (fun ls hl => ?_)
        refine lv_iconst (v := (0 : Int32)) hx hb dX8_isInB_34 (by decide) ?_
        refine lv_istore (lv' := [(4, .int (0 : Int32)), (3, .int (0 : Int32)), (0, .ref (ad 0)), (1, .int p1), (2, .int p2)]) hx hb dX8_isInB_35 hl (by decide) rfl (fun ls hl => ?_)
        rw [hK37] at hq
        exact hq _ _ _ hP hD hS (lv_sub hl [2, 3, 4, 1, 0] rfl)
      · have hq := hq.2 hc
        refine lv_iconst (v := (0 : Int32)) hx hb dX8_isInB_30 (by decide) ?_
        exact W.zret (v := (0 : Int32)) hx hb hr rfl (fun t ht hW => ⟨⟨(0 : Int32), σ, rfl, hq, by rw [ht]; exact hP, hD⟩, hS.F ht⟩) hS.2.2 dX8_isInB_31
  · have hq := hq.2 hc
    refine lv_aload_n hx hb dX8_isInB_8 rfl (lv_at hl 0 rfl) ?_
    refine lv_iload_n hx hb dX8_isInB_9 rfl (lv_at hl 1 rfl) ?_
    refine lv_iload_n hx hb dX8_isInB_10 rfl (lv_at hl 2 rfl) ?_
    refine w_calli (va_runV (As := [.int p1, .int p2]) (rest := []) ⟨hx, hb, hml, hown, hts⟩ (mtX8_leads l D ad cA A σ p1 p2 _ hq) (cwV 2 hts gX8_isInB_X8_leads rfl rfl rfl (by decide +kernel) ⟨Nat.le_of_ble_eq_true rfl, Nat.le_of_ble_eq_true rfl⟩) ⟨stW_blind nwM_ok, va_recv hK hP (ci := 8) (q0 := 0) rfl wMg0, stW_pass hA hS hN hK hP hD nwM_ok⟩ rfl rfl hl.1 rfl (lv_room (Nat.le_of_ble_eq_true rfl)) dX8_isInB_11 ⟨Nat.le_of_ble_eq_true rfl, Nat.le_of_ble_eq_true rfl⟩) hS (fun r1 σ1 H locs hq hP hD hS => ?_)
    exact W.zret (v := r1) hx hb hr hq.1 (fun t ht hW => ⟨⟨r1, σ1, rfl, hq.2, by rw [ht]; exact hP, hD⟩, hS.F ht⟩) hS.2.2 dX8_isInB_14
/-! ArcGuesserModel.common(JJ)J -/
def X8_common_b17 (p0 : Int64) (p2 : Int64) (K17 : Sto → Int64 → Int64 → Prop) (Post : Int64 → Sto → Prop) (σ : Sto) (v4 : Int64) (v6 : Int64) : Prop :=
  (((lg_cmp v6 (0 : Int64)) = 0 → (Post v4 σ)) ∧ (¬ (lg_cmp v6 (0 : Int64)) = 0 → ((¬ v6 = 0) ∧ (K17 σ v6 (v4 - v4 / v6 * v6)))))
def X8_common_wp (σ : Sto) (p0 : Int64) (p2 : Int64) (Post : Int64 → Sto → Prop) : Prop := ∀ (K17 : Sto → Int64 → Int64 → Prop), (∀ (σ : Sto) (v4 : Int64) (v6 : Int64), X8_common_b17 p0 p2 K17 Post σ v4 v6 → K17 σ v4 v6) → 
  ((0 ≤ (lg_cmp p0 (0 : Int64)) → (K17 σ p0 p2)) ∧ (¬ 0 ≤ (lg_cmp p0 (0 : Int64)) → (K17 σ (-p0) p2)))
set_option maxHeartbeats 4000000 in
set_option maxRecDepth 100000 in
theorem mtX8_common (l : Launch) (D : va_G) (ad : Nat → Nat) (cA : Nat → ClassId) (A : Nat → Prop) (σ : Sto) (p0 : Int64) (p2 : Int64) (Post : Int64 → Sto → Prop) (hwp : X8_common_wp σ p0 p2 Post) : Met l yX8_common wsX8_common ({ frames := 0, cells := 0, slots := 0, locals := 0 }) (va_Pc [.long p0, .long p2] (stW D (tyM cA) nwM (wM ad cA) A σ)) (va_Ql Post (enW D (wM ad cA) A) A) 0 0 A := by
  refine Met.ofW (cc := cX8_common) (maxL := 10) (ret := (some .long)) (by decide) rfl ?_
  intro p e s m args below meth c s₁ B hml hv
  obtain ⟨rfl, hA, hN, hP, hK, hD⟩ := hv
  have hx := B.exec
  have hb := B.bytes
  have hr := B.returns
  have hts := atoms_spec (ws := wsX8_common) B.pre
  have hown : s.vm.findClass RX8 = some m.cls := findClass_of_methodNamed B.named
  have hlocks := B.notSynchronized
  have hS : va_S A s.heap s.heap [] := va_S.rf
  have hl := lv_entry ([.long p0, .long p2]) (n := 10) (Nat.le_of_ble_eq_true rfl)
  rw [lg_entry_eq]
  generalize (lg_sl ([.long p0, .long p2]) ++ List.replicate (10 - (lg_sl ([.long p0, .long p2])).length) Slot.unset).toArray = ls at hl ⊢
  have hl : lv_has ls 10 [(0, .long p0), (2, .long p2)] := hl
  obtain ⟨K17, hK17⟩ : ∃ K : Sto → Int64 → Int64 → Prop, K = fun (σ : Sto) (v4 : Int64) (v6 : Int64) => ∀ (H : Heap) (locs : List Loc) (ls : Array Slot), va_P D vwCl ((wM ad cA) σ) H → va_D A ((wM ad cA) σ) → va_S A s.heap H locs → lv_has ls 10 [(4, .long v4), (6, .long v6)] → W p l e (headSpec wsX8_common ({ frames := 0, cells := 0, slots := 0, locals := 0 })).room s m ([.long p0, .long p2] : List Value).toArray below meth c H locs 0 0 (MQ below (va_Ql Post (enW D (wM ad cA) A) A) ([.long p0, .long p2] : List Value).toArray s 0 0 A) (F0 m 17 ls []) := ⟨_, rfl⟩
  have hk17 : ∀ (σ : Sto) (v4 : Int64) (v6 : Int64), X8_common_b17 p0 p2 K17 Post σ v4 v6 → K17 σ v4 v6 := by
    intro σ v4 v6 hq
    rw [hK17]
    intro H locs ls hP hD hS hl
    unfold X8_common_b17 at hq
    refine lv_lload hx hb dX8_common_17 (lv_at hl 1 rfl) ?_
    refine lv_lconst (v := (0 : Int64)) hx hb dX8_common_19 (by decide) ?_
    refine W.lcmp hx hb dX8_common_20 ?_
    refine lv_if_eq (tgt := 42) hx hb dX8_common_21 (by decide) (fun hc => ?_) (fun hc => ?_)
    · have hq := hq.1 hc
      refine lv_lload hx hb dX8_common_42 (lv_at hl 0 rfl) ?_
      exact W.lret (v := v4) hx hb hr (fun t ht hW => ⟨⟨v4, σ, rfl, hq, by rw [ht]; exact hP, hD⟩, hS.F ht⟩) hS.2.2 dX8_common_44
    · have hq := hq.2 hc
      refine lv_lload hx hb dX8_common_24 (lv_at hl 0 rfl) ?_
      refine lv_lload hx hb dX8_common_26 (lv_at hl 1 rfl) ?_
      refine lv_lrem hx hb dX8_common_28 hq.1 ?_
      have hq := hq.2
      refine lv_lstore (lv' := [(8, .long (v4 - v4 / v6 * v6)), (4, .long v4), (6, .long v6)]) hx hb dX8_common_29 hl (by decide) rfl (fun ls hl => ?_)
      refine lv_lload hx hb dX8_common_31 (lv_at hl 2 rfl) ?_
      refine lv_lstore (lv' := [(4, .long v6), (8, .long (v4 - v4 / v6 * v6)), (6, .long v6)]) hx hb dX8_common_33 hl (by decide) rfl (fun ls hl => ?_)
      refine lv_lload hx hb dX8_common_35 (lv_at hl 1 rfl) ?_
      refine lv_lstore (lv' := [(6, .long (v4 - v4 / v6 * v6)), (4, .long v6), (8, .long (v4 - v4 / v6 * v6))]) hx hb dX8_common_37 hl (by decide) rfl (fun ls hl => ?_)
      refine lv_goto (tgt := 17) hx hb dX8_common_39 (by decide) ?_
      rw [hK17] at hq
      exact hq _ _ _ hP hD hS (lv_sub hl [1, 0] rfl)
  have hq := hwp K17 hk17
  refine lv_lload_n hx hb dX8_common_0 rfl (lv_at hl 0 rfl) ?_
  refine lv_lconst (v := (0 : Int64)) hx hb dX8_common_1 (by decide) ?_
  refine W.lcmp hx hb dX8_common_2 ?_
  refine lv_if_ge (tgt := 11) hx hb dX8_common_3 (by decide) (fun hc => ?_) (fun hc => ?_)
  · have hq := hq.1 hc
    refine lv_lload_n hx hb dX8_common_11 rfl (lv_at hl 0 rfl) ?_
    refine lv_lstore (lv' := [(4, .long p0), (0, .long p0), (2, .long p2)]) hx hb dX8_common_12 hl (by decide) rfl (fun ls hl => ?_)
    refine lv_lload_n hx hb dX8_common_14 rfl (lv_at hl 2 rfl) ?_
    refine lv_lstore (lv' := [(6, .long p2), (4, .long p0), (0, .long p0), (2, .long p2)]) hx hb dX8_common_15 hl (by decide) rfl (fun ls hl => ?_)
    rw [hK17] at hq
    exact hq _ _ _ hP hD hS (lv_sub hl [1, 0] rfl)
  · have hq := hq.2 hc
    refine lv_lload_n hx hb dX8_common_6 rfl (lv_at hl 0 rfl) ?_
    refine lv_lneg hx hb dX8_common_7 ?_
    refine lv_goto (tgt := 12) hx hb dX8_common_8 (by decide) ?_
    refine lv_lstore (lv' := [(4, .long (-p0)), (0, .long p0), (2, .long p2)]) hx hb dX8_common_12 hl (by decide) rfl (fun ls hl => ?_)
    refine lv_lload_n hx hb dX8_common_14 rfl (lv_at hl 2 rfl) ?_
    refine lv_lstore (lv' := [(6, .long p2), (4, .long (-p0)), (0, .long p0), (2, .long p2)]) hx hb dX8_common_15 hl (by decide) rfl (fun ls hl => ?_)
    rw [hK17] at hq
    exact hq _ _ _ hP hD hS (lv_sub hl [1, 0] rfl)
/-! ArcGuesserModel.make(JJ)V -/
def X8_make_wp (σ : Sto) (p1 : Int64) (p3 : Int64) (Post : Sto → Prop) : Prop :=
  ((¬ (lg_cmp p3 (0 : Int64)) = 0 → (X8_common_wp σ p1 p3 (fun r1 σ1 => ((¬ r1 = 0) ∧ ((¬ r1 = 0) ∧ (Post (sJ (sJ σ1 0 19 (p1 / r1)) 0 20 (p3 / r1)))))))) ∧ ((lg_cmp p3 (0 : Int64)) = 0 → (Post (sJ (sJ σ 0 19 (0 : Int64)) 0 20 (1 : Int64)))))
set_option maxHeartbeats 4000000 in
set_option maxRecDepth 100000 in
theorem mtX8_make (l : Launch) (D : va_G) (ad : Nat → Nat) (cA : Nat → ClassId) (A : Nat → Prop) (σ : Sto) (p1 : Int64) (p3 : Int64) (Post : Sto → Prop) (hwp : X8_make_wp σ p1 p3 Post) : Met l yX8_make wsX8_make ({ frames := 1, cells := 0, slots := 0, locals := 29 }) (va_Pc [.ref (ad 0), .long p1, .long p3] (stW D (tyM cA) nwM (wM ad cA) A σ)) (va_Qv Post (enW D (wM ad cA) A) A) 0 0 A := by
  refine Met.ofW (cc := cX8_make) (maxL := 7) (ret := none) (by decide) rfl ?_
  intro p e s m args below meth c s₁ B hml hv
  obtain ⟨rfl, hA, hN, hP, hK, hD⟩ := hv
  have hx := B.exec
  have hb := B.bytes
  have hr := B.returns
  have hts := atoms_spec (ws := wsX8_make) B.pre
  have hown : s.vm.findClass RX8 = some m.cls := findClass_of_methodNamed B.named
  have hlocks := B.notSynchronized
  have hiX8 : ∀ w ∈ wsX80, w ∈ wsX8_make := by decide +kernel
  have hS : va_S A s.heap s.heap [] := va_S.rf
  have hl := lv_entry ([.ref (ad 0), .long p1, .long p3]) (n := 7) (Nat.le_of_ble_eq_true rfl)
  rw [lg_entry_eq]
  generalize (lg_sl ([.ref (ad 0), .long p1, .long p3]) ++ List.replicate (7 - (lg_sl ([.ref (ad 0), .long p1, .long p3])).length) Slot.unset).toArray = ls at hl ⊢
  have hl : lv_has ls 7 [(0, .ref (ad 0)), (1, .long p1), (3, .long p3)] := hl
  have hq := hwp
  unfold X8_make_wp at hq
  refine lv_lload_n hx hb dX8_make_0 rfl (lv_at hl 2 rfl) ?_
  refine lv_lconst (v := (0 : Int64)) hx hb dX8_make_1 (by decide) ?_
  refine W.lcmp hx hb dX8_make_2 ?_
  refine lv_if_ne (tgt := 17) hx hb dX8_make_3 (by decide) (fun hc => ?_) (fun hc => ?_)
  · have hq := hq.1 hc
    refine lv_lload_n hx hb dX8_make_17 rfl (lv_at hl 1 rfl) ?_
    refine lv_lload_n hx hb dX8_make_18 rfl (lv_at hl 2 rfl) ?_
    refine w_calll (va_runS (As := [.long p1, .long p3]) (rest := []) ⟨hx, hb, hml, hown, hts⟩ (mtX8_common l D ad cA A σ p1 p3 _ hq) (va_cwS 2 hts gX8_make_X8_common rfl rfl rfl (by decide +kernel) ⟨Nat.le_of_ble_eq_true rfl, Nat.le_of_ble_eq_true rfl⟩) ⟨stW_blind nwM_ok, stW_pass hA hS hN hK hP hD nwM_ok⟩ rfl rfl hl.1 rfl (lv_room (Nat.le_of_ble_eq_true rfl)) dX8_make_19 ⟨Nat.le_of_ble_eq_true rfl, Nat.le_of_ble_eq_true rfl⟩) hS (fun r1 σ1 H locs hq hP hD hS => ?_)
    refine lv_lstore (lv' := [(5, .long r1), (0, .ref (ad 0)), (1, .long p1), (3, .long p3)]) hx hb dX8_make_22 hl (by decide) rfl (fun ls hl => ?_)
    refine lv_aload_n hx hb dX8_make_24 rfl (lv_at hl 1 rfl) ?_
    refine lv_lload_n hx hb dX8_make_25 rfl (lv_at hl 2 rfl) ?_
    refine lv_lload hx hb dX8_make_26 (lv_at hl 0 rfl) ?_
    refine lv_ldiv hx hb dX8_make_28 hq.1 ?_
    have hq := hq.2
    refine va_put (D := D) (ci := 8) (v := .long (p1 / r1)) (ty := .long) (C := RX8) (T := TX8) (N := 32) hx hb hts hiX8 tyX8 tyX8_ok nmX8 hown hK hP hD hS 0 wMg0 rfl 19 (by decide) (hts (.fieldLink RX8 136 "ArcGuesserModel" "top" "J") (List.mem_of_getElem? (i := 1) rfl)) (fun _ h9 => h9) rfl (by decide +kernel) rfl rfl (Nat.le_of_ble_eq_true rfl) dX8_make_29 (fun H locs hP hD hS => ?_)
    have hP := wMfP0_19 hP
    have hD := wMfD0_19 hD
    refine lv_aload_n hx hb dX8_make_32 rfl (lv_at hl 1 rfl) ?_
    refine lv_lload_n hx hb dX8_make_33 rfl (lv_at hl 3 rfl) ?_
    refine lv_lload hx hb dX8_make_34 (lv_at hl 0 rfl) ?_
    refine lv_ldiv hx hb dX8_make_36 hq.1 ?_
    have hq := hq.2
    refine va_put (D := D) (ci := 8) (v := .long (p3 / r1)) (ty := .long) (C := RX8) (T := TX8) (N := 32) hx hb hts hiX8 tyX8 tyX8_ok nmX8 hown hK hP hD hS 0 wMg0 rfl 20 (by decide) (hts (.fieldLink RX8 139 "ArcGuesserModel" "bottom" "J") (List.mem_of_getElem? (i := 2) rfl)) (fun _ h9 => h9) rfl (by decide +kernel) rfl rfl (Nat.le_of_ble_eq_true rfl) dX8_make_37 (fun H locs hP hD hS => ?_)
    have hP := wMfP0_20 hP
    have hD := wMfD0_20 hD
    exact W.vret hx hb hr (fun t ht hW => ⟨⟨(sJ (sJ σ1 0 19 (p1 / r1)) 0 20 (p3 / r1)), rfl, hq, by rw [ht]; exact hP, hD⟩, hS.F ht⟩) hS.2.2 dX8_make_40
  · have hq := hq.2 hc
    refine lv_aload_n hx hb dX8_make_6 rfl (lv_at hl 0 rfl) ?_
    refine lv_lconst (v := (0 : Int64)) hx hb dX8_make_7 (by decide) ?_
    refine va_put (D := D) (ci := 8) (v := .long (0 : Int64)) (ty := .long) (C := RX8) (T := TX8) (N := 32) hx hb hts hiX8 tyX8 tyX8_ok nmX8 hown hK hP hD hS 0 wMg0 rfl 19 (by decide) (hts (.fieldLink RX8 136 "ArcGuesserModel" "top" "J") (List.mem_of_getElem? (i := 1) rfl)) (fun _ h9 => h9) rfl (by decide +kernel) rfl rfl (Nat.le_of_ble_eq_true rfl) dX8_make_8 (fun H locs hP hD hS => ?_)
    have hP := wMfP0_19 hP
    have hD := wMfD0_19 hD
    refine lv_aload_n hx hb dX8_make_11 rfl (lv_at hl 0 rfl) ?_
    refine lv_lconst (v := (1 : Int64)) hx hb dX8_make_12 (by decide) ?_
    refine va_put (D := D) (ci := 8) (v := .long (1 : Int64)) (ty := .long) (C := RX8) (T := TX8) (N := 32) hx hb hts hiX8 tyX8 tyX8_ok nmX8 hown hK hP hD hS 0 wMg0 rfl 20 (by decide) (hts (.fieldLink RX8 139 "ArcGuesserModel" "bottom" "J") (List.mem_of_getElem? (i := 2) rfl)) (fun _ h9 => h9) rfl (by decide +kernel) rfl rfl (Nat.le_of_ble_eq_true rfl) dX8_make_13 (fun H locs hP hD hS => ?_)
    have hP := wMfP0_20 hP
    have hD := wMfD0_20 hD
    exact W.vret hx hb hr (fun t ht hW => ⟨⟨(sJ (sJ σ 0 19 (0 : Int64)) 0 20 (1 : Int64)), rfl, hq, by rw [ht]; exact hP, hD⟩, hS.F ht⟩) hS.2.2 dX8_make_16
/-! ArcGuesserModel.outs(I)I -/
def X8_outs_b4 (p1 : Int32) (K4 : Sto → Int32 → Int32 → Prop) (Post : Int32 → Sto → Prop) (σ : Sto) (v2 : Int32) (v3 : Int32) : Prop :=
  (((σ.1 0 0) ≤ v3 → (Post v2 σ)) ∧ (¬ (σ.1 0 0) ≤ v3 → (X8_leads_wp σ p1 v3 (fun r1 σ1 => ((r1 = 0 → (K4 σ1 (v2 + (0 : Int32)) (v3 + (1 : Int32)))) ∧ (¬ r1 = 0 → (K4 σ1 (v2 + (1 : Int32)) (v3 + (1 : Int32)))))))))
def X8_outs_wp (σ : Sto) (p1 : Int32) (Post : Int32 → Sto → Prop) : Prop := ∀ (K4 : Sto → Int32 → Int32 → Prop), (∀ (σ : Sto) (v2 : Int32) (v3 : Int32), X8_outs_b4 p1 K4 Post σ v2 v3 → K4 σ v2 v3) → 
  (K4 σ (0 : Int32) (0 : Int32))
set_option maxHeartbeats 4000000 in
set_option maxRecDepth 100000 in
theorem mtX8_outs (l : Launch) (D : va_G) (ad : Nat → Nat) (cA : Nat → ClassId) (A : Nat → Prop) (σ : Sto) (p1 : Int32) (Post : Int32 → Sto → Prop) (hwp : X8_outs_wp σ p1 Post) : Met l yX8_outs wsX8_outs ({ frames := 1, cells := 0, slots := 0, locals := 23 }) (va_Pc [.ref (ad 0), .int p1] (stW D (tyM cA) nwM (wM ad cA) A σ)) (va_Qi Post (enW D (wM ad cA) A) A) 0 0 A := by
  refine Met.ofW (cc := cX8_outs) (maxL := 4) (ret := (some .int)) (by decide) rfl ?_
  intro p e s m args below meth c s₁ B hml hv
  obtain ⟨rfl, hA, hN, hP, hK, hD⟩ := hv
  have hx := B.exec
  have hb := B.bytes
  have hr := B.returns
  have hts := atoms_spec (ws := wsX8_outs) B.pre
  have hown : s.vm.findClass RX8 = some m.cls := findClass_of_methodNamed B.named
  have hlocks := B.notSynchronized
  have hiX8 : ∀ w ∈ wsX80, w ∈ wsX8_outs := by decide +kernel
  have hS : va_S A s.heap s.heap [] := va_S.rf
  have hl := lv_entry ([.ref (ad 0), .int p1]) (n := 4) (Nat.le_of_ble_eq_true rfl)
  rw [lg_entry_eq]
  generalize (lg_sl ([.ref (ad 0), .int p1]) ++ List.replicate (4 - (lg_sl ([.ref (ad 0), .int p1])).length) Slot.unset).toArray = ls at hl ⊢
  have hl : lv_has ls 4 [(0, .ref (ad 0)), (1, .int p1)] := hl
  obtain ⟨K4, hK4⟩ : ∃ K : Sto → Int32 → Int32 → Prop, K = fun (σ : Sto) (v2 : Int32) (v3 : Int32) => ∀ (H : Heap) (locs : List Loc) (ls : Array Slot), va_P D vwCl ((wM ad cA) σ) H → va_D A ((wM ad cA) σ) → va_S A s.heap H locs → lv_has ls 4 [(0, .ref (ad 0)), (1, .int p1), (2, .int v2), (3, .int v3)] → W p l e (headSpec wsX8_outs ({ frames := 1, cells := 0, slots := 0, locals := 23 })).room s m ([.ref (ad 0), .int p1] : List Value).toArray below meth c H locs 0 0 (MQ below (va_Qi Post (enW D (wM ad cA) A) A) ([.ref (ad 0), .int p1] : List Value).toArray s 0 0 A) (F0 m 4 ls []) := ⟨_, rfl⟩
  have hk4 : ∀ (σ : Sto) (v2 : Int32) (v3 : Int32), X8_outs_b4 p1 K4 Post σ v2 v3 → K4 σ v2 v3 := by
    intro σ v2 v3 hq
    rw [hK4]
    intro H locs ls hP hD hS hl
    unfold X8_outs_b4 at hq
    refine lv_iload_n hx hb dX8_outs_4 rfl (lv_at hl 3 rfl) ?_
    refine lv_aload_n hx hb dX8_outs_5 rfl (lv_at hl 0 rfl) ?_
    refine va_get (D := D) (ci := 8) (v := .int (σ.1 0 0)) (C := RX8) (T := TX8) (N := 32) hx hb hts hiX8 hown hK hP 0 wMg0 rfl 0 (by decide) (hts (.fieldLink RX8 7 "ArcGuesserModel" "n" "I") (List.mem_of_getElem? (i := 1) rfl)) (fun _ h9 => h9) rfl dX8_outs_6 ?_
    refine lv_icmp_ge (tgt := 35) hx hb dX8_outs_9 (by decide) (fun hc => ?_) (fun hc => ?_)
    · have hq := hq.1 hc
      refine lv_iload_n hx hb dX8_outs_35 rfl (lv_at hl 2 rfl) ?_
      exact W.iret (v := v2) hx hb hr (fun t ht hW => ⟨⟨v2, σ, rfl, hq, by rw [ht]; exact hP, hD⟩, hS.F ht⟩) hS.2.2 dX8_outs_36
    · have hq := hq.2 hc
      refine lv_iload_n hx hb dX8_outs_12 rfl (lv_at hl 2 rfl) ?_
      refine lv_aload_n hx hb dX8_outs_13 rfl (lv_at hl 0 rfl) ?_
      refine lv_iload_n hx hb dX8_outs_14 rfl (lv_at hl 1 rfl) ?_
      refine lv_iload_n hx hb dX8_outs_15 rfl (lv_at hl 3 rfl) ?_
      refine w_calli (va_runV (As := [.int p1, .int v3]) (rest := [.int v2]) ⟨hx, hb, hml, hown, hts⟩ (mtX8_leads l D ad cA A σ p1 v3 _ hq) (cwV 2 hts gX8_outs_X8_leads rfl rfl rfl (by decide +kernel) ⟨Nat.le_of_ble_eq_true rfl, Nat.le_of_ble_eq_true rfl⟩) ⟨stW_blind nwM_ok, va_recv hK hP (ci := 8) (q0 := 0) rfl wMg0, stW_pass hA hS hN hK hP hD nwM_ok⟩ rfl rfl hl.1 rfl (lv_room (Nat.le_of_ble_eq_true rfl)) dX8_outs_16 ⟨Nat.le_of_ble_eq_true rfl, Nat.le_of_ble_eq_true rfl⟩) hS (fun r1 σ1 H locs hq hP hD hS => ?_)
      refine lv_if_eq (tgt := 26) hx hb dX8_outs_19 (by decide) (fun hc => ?_) (fun hc => ?_)
      · have hq := hq.1 hc
        refine lv_iconst (v := (0 : Int32)) hx hb dX8_outs_26 (by decide) ?_
        refine lv_iadd hx hb dX8_outs_27 ?_
        refine lv_istore_n (lv' := [(2, .int (v2 + (0 : Int32))), (0, .ref (ad 0)), (1, .int p1), (3, .int v3)]) hx hb dX8_outs_28 rfl hl (by decide) rfl (fun ls hl => ?_)
        refine lv_iinc (v := (v3 + (1 : Int32))) (lv' := [(3, .int (v3 + (1 : Int32))), (2, .int (v2 + (0 : Int32))), (0, .ref (ad 0)), (1, .int p1)]) hx hb dX8_outs_29 hl (k := 3) rfl (by rfl) (by decide) rfl (fun ls hl => ?_)
        refine lv_goto (tgt := 4) hx hb dX8_outs_32 (by decide) ?_
        rw [hK4] at hq
        exact hq _ _ _ hP hD hS (lv_sub hl [2, 3, 1, 0] rfl)
      · have hq := hq.2 hc
        refine lv_iconst (v := (1 : Int32)) hx hb dX8_outs_22 (by decide) ?_
        refine lv_goto (tgt := 27) hx hb dX8_outs_23 (by decide) ?_
        refine lv_iadd hx hb dX8_outs_27 ?_
        refine lv_istore_n (lv' := [(2, .int (v2 + (1 : Int32))), (0, .ref (ad 0)), (1, .int p1), (3, .int v3)]) hx hb dX8_outs_28 rfl hl (by decide) rfl (fun ls hl => ?_)
        refine lv_iinc (v := (v3 + (1 : Int32))) (lv' := [(3, .int (v3 + (1 : Int32))), (2, .int (v2 + (1 : Int32))), (0, .ref (ad 0)), (1, .int p1)]) hx hb dX8_outs_29 hl (k := 3) rfl (by rfl) (by decide) rfl (fun ls hl => ?_)
        refine lv_goto (tgt := 4) hx hb dX8_outs_32 (by decide) ?_
        rw [hK4] at hq
        exact hq _ _ _ hP hD hS (lv_sub hl [2, 3, 1, 0] rfl)
  have hq := hwp K4 hk4
  refine lv_iconst (v := (0 : Int32)) hx hb dX8_outs_0 (by decide) ?_
  refine lv_istore_n (lv' := [(2, .int (0 : Int32)), (0, .ref (ad 0)), (1, .int p1)]) hx hb dX8_outs_1 rfl hl (by decide) rfl (fun ls hl => ?_)
  refine lv_iconst (v := (0 : Int32)) hx hb dX8_outs_2 (by decide) ?_
  refine lv_istore_n (lv' := [(3, .int (0 : Int32)), (2, .int (0 : Int32)), (0, .ref (ad 0)), (1, .int p1)]) hx hb dX8_outs_3 rfl hl (by decide) rfl (fun ls hl => ?_)
  rw [hK4] at hq
  exact hq _ _ _ hP hD hS (lv_sub hl [2, 3, 1, 0] rfl)
/-! ArcGuesserModel.plus(JJ)V -/
def X8_plus_wp (σ : Sto) (p1 : Int64) (p3 : Int64) (Post : Sto → Prop) : Prop :=
  (X8_common_wp σ p3 (σ.2 0 20) (fun r1 σ1 => ((¬ r1 = 0) ∧ ((¬ r1 = 0) ∧ ((¬ r1 = 0) ∧ (X8_make_wp σ1 (((σ1.2 0 19) * (p3 / r1)) + (p1 * ((σ1.2 0 20) / r1))) (((σ1.2 0 20) / r1) * p3) (fun σ2 => (Post σ2))))))))
set_option maxHeartbeats 4000000 in
set_option maxRecDepth 100000 in
theorem mtX8_plus (l : Launch) (D : va_G) (ad : Nat → Nat) (cA : Nat → ClassId) (A : Nat → Prop) (σ : Sto) (p1 : Int64) (p3 : Int64) (Post : Sto → Prop) (hwp : X8_plus_wp σ p1 p3 Post) : Met l yX8_plus wsX8_plus ({ frames := 2, cells := 0, slots := 0, locals := 55 }) (va_Pc [.ref (ad 0), .long p1, .long p3] (stW D (tyM cA) nwM (wM ad cA) A σ)) (va_Qv Post (enW D (wM ad cA) A) A) 0 0 A := by
  refine Met.ofW (cc := cX8_plus) (maxL := 7) (ret := none) (by decide) rfl ?_
  intro p e s m args below meth c s₁ B hml hv
  obtain ⟨rfl, hA, hN, hP, hK, hD⟩ := hv
  have hx := B.exec
  have hb := B.bytes
  have hr := B.returns
  have hts := atoms_spec (ws := wsX8_plus) B.pre
  have hown : s.vm.findClass RX8 = some m.cls := findClass_of_methodNamed B.named
  have hlocks := B.notSynchronized
  have hiX8 : ∀ w ∈ wsX80, w ∈ wsX8_plus := by decide +kernel
  have hS : va_S A s.heap s.heap [] := va_S.rf
  have hl := lv_entry ([.ref (ad 0), .long p1, .long p3]) (n := 7) (Nat.le_of_ble_eq_true rfl)
  rw [lg_entry_eq]
  generalize (lg_sl ([.ref (ad 0), .long p1, .long p3]) ++ List.replicate (7 - (lg_sl ([.ref (ad 0), .long p1, .long p3])).length) Slot.unset).toArray = ls at hl ⊢
  have hl : lv_has ls 7 [(0, .ref (ad 0)), (1, .long p1), (3, .long p3)] := hl
  have hq := hwp
  unfold X8_plus_wp at hq
  refine lv_lload_n hx hb dX8_plus_0 rfl (lv_at hl 2 rfl) ?_
  refine lv_aload_n hx hb dX8_plus_1 rfl (lv_at hl 0 rfl) ?_
  refine va_get (D := D) (ci := 8) (v := .long (σ.2 0 20)) (C := RX8) (T := TX8) (N := 32) hx hb hts hiX8 hown hK hP 0 wMg0 rfl 20 (by decide) (hts (.fieldLink RX8 139 "ArcGuesserModel" "bottom" "J") (List.mem_of_getElem? (i := 1) rfl)) (fun _ h9 => h9) rfl dX8_plus_2 ?_
  refine w_calll (va_runS (As := [.long p3, .long (σ.2 0 20)]) (rest := []) ⟨hx, hb, hml, hown, hts⟩ (mtX8_common l D ad cA A σ p3 (σ.2 0 20) _ hq) (va_cwS 2 hts gX8_plus_X8_common rfl rfl rfl (by decide +kernel) ⟨Nat.le_of_ble_eq_true rfl, Nat.le_of_ble_eq_true rfl⟩) ⟨stW_blind nwM_ok, stW_pass hA hS hN hK hP hD nwM_ok⟩ rfl rfl hl.1 rfl (lv_room (Nat.le_of_ble_eq_true rfl)) dX8_plus_5 ⟨Nat.le_of_ble_eq_true rfl, Nat.le_of_ble_eq_true rfl⟩) hS (fun r1 σ1 H locs hq hP hD hS => ?_)
  refine lv_lstore (lv' := [(5, .long r1), (0, .ref (ad 0)), (1, .long p1), (3, .long p3)]) hx hb dX8_plus_8 hl (by decide) rfl (fun ls hl => ?_)
  refine lv_aload_n hx hb dX8_plus_10 rfl (lv_at hl 1 rfl) ?_
  refine lv_aload_n hx hb dX8_plus_11 rfl (lv_at hl 1 rfl) ?_
  refine va_get (D := D) (ci := 8) (v := .long (σ1.2 0 19)) (C := RX8) (T := TX8) (N := 32) hx hb hts hiX8 hown hK hP 0 wMg0 rfl 19 (by decide) (hts (.fieldLink RX8 136 "ArcGuesserModel" "top" "J") (List.mem_of_getElem? (i := 2) rfl)) (fun _ h9 => h9) rfl dX8_plus_12 ?_
  refine lv_lload_n hx hb dX8_plus_15 rfl (lv_at hl 3 rfl) ?_
  refine lv_lload hx hb dX8_plus_16 (lv_at hl 0 rfl) ?_
  refine lv_ldiv hx hb dX8_plus_18 hq.1 ?_
  have hq := hq.2
  refine lv_lmul hx hb dX8_plus_19 ?_
  refine lv_lload_n hx hb dX8_plus_20 rfl (lv_at hl 2 rfl) ?_
  refine lv_aload_n hx hb dX8_plus_21 rfl (lv_at hl 1 rfl) ?_
  refine va_get (D := D) (ci := 8) (v := .long (σ1.2 0 20)) (C := RX8) (T := TX8) (N := 32) hx hb hts hiX8 hown hK hP 0 wMg0 rfl 20 (by decide) (hts (.fieldLink RX8 139 "ArcGuesserModel" "bottom" "J") (List.mem_of_getElem? (i := 1) rfl)) (fun _ h9 => h9) rfl dX8_plus_22 ?_
  refine lv_lload hx hb dX8_plus_25 (lv_at hl 0 rfl) ?_
  refine lv_ldiv hx hb dX8_plus_27 hq.1 ?_
  have hq := hq.2
  refine lv_lmul hx hb dX8_plus_28 ?_
  refine lv_ladd hx hb dX8_plus_29 ?_
  refine lv_aload_n hx hb dX8_plus_30 rfl (lv_at hl 1 rfl) ?_
  refine va_get (D := D) (ci := 8) (v := .long (σ1.2 0 20)) (C := RX8) (T := TX8) (N := 32) hx hb hts hiX8 hown hK hP 0 wMg0 rfl 20 (by decide) (hts (.fieldLink RX8 139 "ArcGuesserModel" "bottom" "J") (List.mem_of_getElem? (i := 1) rfl)) (fun _ h9 => h9) rfl dX8_plus_31 ?_
  refine lv_lload hx hb dX8_plus_34 (lv_at hl 0 rfl) ?_
  refine lv_ldiv hx hb dX8_plus_36 hq.1 ?_
  have hq := hq.2
  refine lv_lload_n hx hb dX8_plus_37 rfl (lv_at hl 3 rfl) ?_
  refine lv_lmul hx hb dX8_plus_38 ?_
  refine w_callv (va_runV (As := [.long (((σ1.2 0 19) * (p3 / r1)) + (p1 * ((σ1.2 0 20) / r1))), .long (((σ1.2 0 20) / r1) * p3)]) (rest := []) ⟨hx, hb, hml, hown, hts⟩ (mtX8_make l D ad cA A σ1 (((σ1.2 0 19) * (p3 / r1)) + (p1 * ((σ1.2 0 20) / r1))) (((σ1.2 0 20) / r1) * p3) _ hq) (cwV 2 hts gX8_plus_X8_make rfl rfl rfl (by decide +kernel) ⟨Nat.le_of_ble_eq_true rfl, Nat.le_of_ble_eq_true rfl⟩) ⟨stW_blind nwM_ok, va_recv hK hP (ci := 8) (q0 := 0) rfl wMg0, stW_pass hA hS hN hK hP hD nwM_ok⟩ rfl rfl hl.1 rfl (lv_room (Nat.le_of_ble_eq_true rfl)) dX8_plus_39 ⟨Nat.le_of_ble_eq_true rfl, Nat.le_of_ble_eq_true rfl⟩) hS (fun σ2 H locs hq hP hD hS => ?_)
  exact W.vret hx hb hr (fun t ht hW => ⟨⟨σ2, rfl, hq, by rw [ht]; exact hP, hD⟩, hS.F ht⟩) hS.2.2 dX8_plus_42
/-! ArcGuesserModel.ins(I)I -/
def X8_ins_b4 (p1 : Int32) (K4 : Sto → Int32 → Int32 → Prop) (Post : Int32 → Sto → Prop) (σ : Sto) (v2 : Int32) (v3 : Int32) : Prop :=
  (((σ.1 0 0) ≤ v3 → (Post v2 σ)) ∧ (¬ (σ.1 0 0) ≤ v3 → (X8_leads_wp σ v3 p1 (fun r1 σ1 => ((r1 = 0 → (K4 σ1 (v2 + (0 : Int32)) (v3 + (1 : Int32)))) ∧ (¬ r1 = 0 → (K4 σ1 (v2 + (1 : Int32)) (v3 + (1 : Int32)))))))))
def X8_ins_wp (σ : Sto) (p1 : Int32) (Post : Int32 → Sto → Prop) : Prop := ∀ (K4 : Sto → Int32 → Int32 → Prop), (∀ (σ : Sto) (v2 : Int32) (v3 : Int32), X8_ins_b4 p1 K4 Post σ v2 v3 → K4 σ v2 v3) → 
  (K4 σ (0 : Int32) (0 : Int32))
set_option maxHeartbeats 4000000 in
set_option maxRecDepth 100000 in
theorem mtX8_ins (l : Launch) (D : va_G) (ad : Nat → Nat) (cA : Nat → ClassId) (A : Nat → Prop) (σ : Sto) (p1 : Int32) (Post : Int32 → Sto → Prop) (hwp : X8_ins_wp σ p1 Post) : Met l yX8_ins wsX8_ins ({ frames := 1, cells := 0, slots := 0, locals := 23 }) (va_Pc [.ref (ad 0), .int p1] (stW D (tyM cA) nwM (wM ad cA) A σ)) (va_Qi Post (enW D (wM ad cA) A) A) 0 0 A := by
  refine Met.ofW (cc := cX8_ins) (maxL := 4) (ret := (some .int)) (by decide) rfl ?_
  intro p e s m args below meth c s₁ B hml hv
  obtain ⟨rfl, hA, hN, hP, hK, hD⟩ := hv
  have hx := B.exec
  have hb := B.bytes
  have hr := B.returns
  have hts := atoms_spec (ws := wsX8_ins) B.pre
  have hown : s.vm.findClass RX8 = some m.cls := findClass_of_methodNamed B.named
  have hlocks := B.notSynchronized
  have hiX8 : ∀ w ∈ wsX80, w ∈ wsX8_ins := by decide +kernel
  have hS : va_S A s.heap s.heap [] := va_S.rf
  have hl := lv_entry ([.ref (ad 0), .int p1]) (n := 4) (Nat.le_of_ble_eq_true rfl)
  rw [lg_entry_eq]
  generalize (lg_sl ([.ref (ad 0), .int p1]) ++ List.replicate (4 - (lg_sl ([.ref (ad 0), .int p1])).length) Slot.unset).toArray = ls at hl ⊢
  have hl : lv_has ls 4 [(0, .ref (ad 0)), (1, .int p1)] := hl
  obtain ⟨K4, hK4⟩ : ∃ K : Sto → Int32 → Int32 → Prop, K = fun (σ : Sto) (v2 : Int32) (v3 : Int32) => ∀ (H : Heap) (locs : List Loc) (ls : Array Slot), va_P D vwCl ((wM ad cA) σ) H → va_D A ((wM ad cA) σ) → va_S A s.heap H locs → lv_has ls 4 [(0, .ref (ad 0)), (1, .int p1), (2, .int v2), (3, .int v3)] → W p l e (headSpec wsX8_ins ({ frames := 1, cells := 0, slots := 0, locals := 23 })).room s m ([.ref (ad 0), .int p1] : List Value).toArray below meth c H locs 0 0 (MQ below (va_Qi Post (enW D (wM ad cA) A) A) ([.ref (ad 0), .int p1] : List Value).toArray s 0 0 A) (F0 m 4 ls []) := ⟨_, rfl⟩
  have hk4 : ∀ (σ : Sto) (v2 : Int32) (v3 : Int32), X8_ins_b4 p1 K4 Post σ v2 v3 → K4 σ v2 v3 := by
    intro σ v2 v3 hq
    rw [hK4]
    intro H locs ls hP hD hS hl
    unfold X8_ins_b4 at hq
    refine lv_iload_n hx hb dX8_ins_4 rfl (lv_at hl 3 rfl) ?_
    refine lv_aload_n hx hb dX8_ins_5 rfl (lv_at hl 0 rfl) ?_
    refine va_get (D := D) (ci := 8) (v := .int (σ.1 0 0)) (C := RX8) (T := TX8) (N := 32) hx hb hts hiX8 hown hK hP 0 wMg0 rfl 0 (by decide) (hts (.fieldLink RX8 7 "ArcGuesserModel" "n" "I") (List.mem_of_getElem? (i := 1) rfl)) (fun _ h9 => h9) rfl dX8_ins_6 ?_
    refine lv_icmp_ge (tgt := 35) hx hb dX8_ins_9 (by decide) (fun hc => ?_) (fun hc => ?_)
    · have hq := hq.1 hc
      refine lv_iload_n hx hb dX8_ins_35 rfl (lv_at hl 2 rfl) ?_
      exact W.iret (v := v2) hx hb hr (fun t ht hW => ⟨⟨v2, σ, rfl, hq, by rw [ht]; exact hP, hD⟩, hS.F ht⟩) hS.2.2 dX8_ins_36
    · have hq := hq.2 hc
      refine lv_iload_n hx hb dX8_ins_12 rfl (lv_at hl 2 rfl) ?_
      refine lv_aload_n hx hb dX8_ins_13 rfl (lv_at hl 0 rfl) ?_
      refine lv_iload_n hx hb dX8_ins_14 rfl (lv_at hl 3 rfl) ?_
      refine lv_iload_n hx hb dX8_ins_15 rfl (lv_at hl 1 rfl) ?_
      refine w_calli (va_runV (As := [.int v3, .int p1]) (rest := [.int v2]) ⟨hx, hb, hml, hown, hts⟩ (mtX8_leads l D ad cA A σ v3 p1 _ hq) (cwV 2 hts gX8_ins_X8_leads rfl rfl rfl (by decide +kernel) ⟨Nat.le_of_ble_eq_true rfl, Nat.le_of_ble_eq_true rfl⟩) ⟨stW_blind nwM_ok, va_recv hK hP (ci := 8) (q0 := 0) rfl wMg0, stW_pass hA hS hN hK hP hD nwM_ok⟩ rfl rfl hl.1 rfl (lv_room (Nat.le_of_ble_eq_true rfl)) dX8_ins_16 ⟨Nat.le_of_ble_eq_true rfl, Nat.le_of_ble_eq_true rfl⟩) hS (fun r1 σ1 H locs hq hP hD hS => ?_)
      refine lv_if_eq (tgt := 26) hx hb dX8_ins_19 (by decide) (fun hc => ?_) (fun hc => ?_)
      · have hq := hq.1 hc
        refine lv_iconst (v := (0 : Int32)) hx hb dX8_ins_26 (by decide) ?_
        refine lv_iadd hx hb dX8_ins_27 ?_
        refine lv_istore_n (lv' := [(2, .int (v2 + (0 : Int32))), (0, .ref (ad 0)), (1, .int p1), (3, .int v3)]) hx hb dX8_ins_28 rfl hl (by decide) rfl (fun ls hl => ?_)
        refine lv_iinc (v := (v3 + (1 : Int32))) (lv' := [(3, .int (v3 + (1 : Int32))), (2, .int (v2 + (0 : Int32))), (0, .ref (ad 0)), (1, .int p1)]) hx hb dX8_ins_29 hl (k := 3) rfl (by rfl) (by decide) rfl (fun ls hl => ?_)
        refine lv_goto (tgt := 4) hx hb dX8_ins_32 (by decide) ?_
        rw [hK4] at hq
        exact hq _ _ _ hP hD hS (lv_sub hl [2, 3, 1, 0] rfl)
      · have hq := hq.2 hc
        refine lv_iconst (v := (1 : Int32)) hx hb dX8_ins_22 (by decide) ?_
        refine lv_goto (tgt := 27) hx hb dX8_ins_23 (by decide) ?_
        refine lv_iadd hx hb dX8_ins_27 ?_
        refine lv_istore_n (lv' := [(2, .int (v2 + (1 : Int32))), (0, .ref (ad 0)), (1, .int p1), (3, .int v3)]) hx hb dX8_ins_28 rfl hl (by decide) rfl (fun ls hl => ?_)
        refine lv_iinc (v := (v3 + (1 : Int32))) (lv' := [(3, .int (v3 + (1 : Int32))), (2, .int (v2 + (1 : Int32))), (0, .ref (ad 0)), (1, .int p1)]) hx hb dX8_ins_29 hl (k := 3) rfl (by rfl) (by decide) rfl (fun ls hl => ?_)
        refine lv_goto (tgt := 4) hx hb dX8_ins_32 (by decide) ?_
        rw [hK4] at hq
        exact hq _ _ _ hP hD hS (lv_sub hl [2, 3, 1, 0] rfl)
  have hq := hwp K4 hk4
  refine lv_iconst (v := (0 : Int32)) hx hb dX8_ins_0 (by decide) ?_
  refine lv_istore_n (lv' := [(2, .int (0 : Int32)), (0, .ref (ad 0)), (1, .int p1)]) hx hb dX8_ins_1 rfl hl (by decide) rfl (fun ls hl => ?_)
  refine lv_iconst (v := (0 : Int32)) hx hb dX8_ins_2 (by decide) ?_
  refine lv_istore_n (lv' := [(3, .int (0 : Int32)), (2, .int (0 : Int32)), (0, .ref (ad 0)), (1, .int p1)]) hx hb dX8_ins_3 rfl hl (by decide) rfl (fun ls hl => ?_)
  rw [hK4] at hq
  exact hq _ _ _ hP hD hS (lv_sub hl [2, 3, 1, 0] rfl)
/-! ArcGuesserModel.walks(II)I -/
def X8_walks_b8 (p1 : Int32) (p2 : Int32) (K8 : Sto → Int32 → Int32 → Int32 → Prop) (K48 : Sto → Int32 → Int32 → Int32 → Int32 → Prop) (Post : Int32 → Sto → Prop) (σ : Sto) (v3 : Int32) (v4 : Int32) (v5 : Int32) : Prop :=
  (((σ.1 0 0) ≤ v5 → (Post (((σ.1 0 10) * v3) + ((σ.1 0 11) * v4)) σ)) ∧ (¬ (σ.1 0 0) ≤ v5 → (X8_leads_wp σ p1 v5 (fun r1 σ1 => ((r1 = 0 → (K8 σ1 v3 v4 (v5 + (1 : Int32)))) ∧ (¬ r1 = 0 → (X8_leads_wp σ1 v5 p2 (fun r2 σ2 => ((r2 = 0 → (K48 σ2 (v3 + (0 : Int32)) v4 v5 (0 : Int32))) ∧ (¬ r2 = 0 → (K48 σ2 (v3 + (1 : Int32)) v4 v5 (0 : Int32))))))))))))
def X8_walks_b48 (p1 : Int32) (p2 : Int32) (K8 : Sto → Int32 → Int32 → Int32 → Prop) (K48 : Sto → Int32 → Int32 → Int32 → Int32 → Prop) (Post : Int32 → Sto → Prop) (σ : Sto) (v3 : Int32) (v4 : Int32) (v5 : Int32) (v6 : Int32) : Prop :=
  (((σ.1 0 0) ≤ v6 → (K8 σ v3 v4 (v5 + (1 : Int32)))) ∧ (¬ (σ.1 0 0) ≤ v6 → (X8_leads_wp σ v5 v6 (fun r1 σ1 => ((r1 = 0 → (K48 σ1 v3 (v4 + (0 : Int32)) v5 (v6 + (1 : Int32)))) ∧ (¬ r1 = 0 → (X8_leads_wp σ1 v6 p2 (fun r2 σ2 => ((r2 = 0 → (K48 σ2 v3 (v4 + (0 : Int32)) v5 (v6 + (1 : Int32)))) ∧ (¬ r2 = 0 → (K48 σ2 v3 (v4 + (1 : Int32)) v5 (v6 + (1 : Int32)))))))))))))
def X8_walks_wp (σ : Sto) (p1 : Int32) (p2 : Int32) (Post : Int32 → Sto → Prop) : Prop := ∀ (K8 : Sto → Int32 → Int32 → Int32 → Prop) (K48 : Sto → Int32 → Int32 → Int32 → Int32 → Prop), (∀ (σ : Sto) (v3 : Int32) (v4 : Int32) (v5 : Int32), X8_walks_b8 p1 p2 K8 K48 Post σ v3 v4 v5 → K8 σ v3 v4 v5) → (∀ (σ : Sto) (v3 : Int32) (v4 : Int32) (v5 : Int32) (v6 : Int32), X8_walks_b48 p1 p2 K8 K48 Post σ v3 v4 v5 v6 → K48 σ v3 v4 v5 v6) → 
  (K8 σ (0 : Int32) (0 : Int32) (0 : Int32))
set_option maxHeartbeats 4000000 in
set_option maxRecDepth 100000 in
theorem mtX8_walks (l : Launch) (D : va_G) (ad : Nat → Nat) (cA : Nat → ClassId) (A : Nat → Prop) (σ : Sto) (p1 : Int32) (p2 : Int32) (Post : Int32 → Sto → Prop) (hwp : X8_walks_wp σ p1 p2 Post) : Met l yX8_walks wsX8_walks ({ frames := 1, cells := 0, slots := 0, locals := 23 }) (va_Pc [.ref (ad 0), .int p1, .int p2] (stW D (tyM cA) nwM (wM ad cA) A σ)) (va_Qi Post (enW D (wM ad cA) A) A) 0 0 A := by
  refine Met.ofW (cc := cX8_walks) (maxL := 7) (ret := (some .int)) (by decide) rfl ?_
  intro p e s m args below meth c s₁ B hml hv
  obtain ⟨rfl, hA, hN, hP, hK, hD⟩ := hv
  have hx := B.exec
  have hb := B.bytes
  have hr := B.returns
  have hts := atoms_spec (ws := wsX8_walks) B.pre
  have hown : s.vm.findClass RX8 = some m.cls := findClass_of_methodNamed B.named
  have hlocks := B.notSynchronized
  have hiX8 : ∀ w ∈ wsX80, w ∈ wsX8_walks := by decide +kernel
  have hS : va_S A s.heap s.heap [] := va_S.rf
  have hl := lv_entry ([.ref (ad 0), .int p1, .int p2]) (n := 7) (Nat.le_of_ble_eq_true rfl)
  rw [lg_entry_eq]
  generalize (lg_sl ([.ref (ad 0), .int p1, .int p2]) ++ List.replicate (7 - (lg_sl ([.ref (ad 0), .int p1, .int p2])).length) Slot.unset).toArray = ls at hl ⊢
  have hl : lv_has ls 7 [(0, .ref (ad 0)), (1, .int p1), (2, .int p2)] := hl
  obtain ⟨K8, hK8⟩ : ∃ K : Sto → Int32 → Int32 → Int32 → Prop, K = fun (σ : Sto) (v3 : Int32) (v4 : Int32) (v5 : Int32) => ∀ (H : Heap) (locs : List Loc) (ls : Array Slot), va_P D vwCl ((wM ad cA) σ) H → va_D A ((wM ad cA) σ) → va_S A s.heap H locs → lv_has ls 7 [(0, .ref (ad 0)), (1, .int p1), (2, .int p2), (3, .int v3), (4, .int v4), (5, .int v5)] → W p l e (headSpec wsX8_walks ({ frames := 1, cells := 0, slots := 0, locals := 23 })).room s m ([.ref (ad 0), .int p1, .int p2] : List Value).toArray below meth c H locs 0 0 (MQ below (va_Qi Post (enW D (wM ad cA) A) A) ([.ref (ad 0), .int p1, .int p2] : List Value).toArray s 0 0 A) (F0 m 8 ls []) := ⟨_, rfl⟩
  obtain ⟨K48, hK48⟩ : ∃ K : Sto → Int32 → Int32 → Int32 → Int32 → Prop, K = fun (σ : Sto) (v3 : Int32) (v4 : Int32) (v5 : Int32) (v6 : Int32) => ∀ (H : Heap) (locs : List Loc) (ls : Array Slot), va_P D vwCl ((wM ad cA) σ) H → va_D A ((wM ad cA) σ) → va_S A s.heap H locs → lv_has ls 7 [(0, .ref (ad 0)), (1, .int p1), (2, .int p2), (3, .int v3), (4, .int v4), (5, .int v5), (6, .int v6)] → W p l e (headSpec wsX8_walks ({ frames := 1, cells := 0, slots := 0, locals := 23 })).room s m ([.ref (ad 0), .int p1, .int p2] : List Value).toArray below meth c H locs 0 0 (MQ below (va_Qi Post (enW D (wM ad cA) A) A) ([.ref (ad 0), .int p1, .int p2] : List Value).toArray s 0 0 A) (F0 m 48 ls []) := ⟨_, rfl⟩
  have hk8 : ∀ (σ : Sto) (v3 : Int32) (v4 : Int32) (v5 : Int32), X8_walks_b8 p1 p2 K8 K48 Post σ v3 v4 v5 → K8 σ v3 v4 v5 := by
    intro σ v3 v4 v5 hq
    rw [hK8]
    intro H locs ls hP hD hS hl
    unfold X8_walks_b8 at hq
    refine lv_iload hx hb dX8_walks_8 (lv_at hl 5 rfl) ?_
    refine lv_aload_n hx hb dX8_walks_10 rfl (lv_at hl 0 rfl) ?_
    refine va_get (D := D) (ci := 8) (v := .int (σ.1 0 0)) (C := RX8) (T := TX8) (N := 32) hx hb hts hiX8 hown hK hP 0 wMg0 rfl 0 (by decide) (hts (.fieldLink RX8 7 "ArcGuesserModel" "n" "I") (List.mem_of_getElem? (i := 1) rfl)) (fun _ h9 => h9) rfl dX8_walks_11 ?_
    refine lv_icmp_ge (tgt := 100) hx hb dX8_walks_14 (by decide) (fun hc => ?_) (fun hc => ?_)
    · have hq := hq.1 hc
      refine lv_aload_n hx hb dX8_walks_100 rfl (lv_at hl 0 rfl) ?_
      refine va_get (D := D) (ci := 8) (v := .int (σ.1 0 10)) (C := RX8) (T := TX8) (N := 32) hx hb hts hiX8 hown hK hP 0 wMg0 rfl 10 (by decide) (hts (.fieldLink RX8 36 "ArcGuesserModel" "two" "I") (List.mem_of_getElem? (i := 2) rfl)) (fun _ h9 => h9) rfl dX8_walks_101 ?_
      refine lv_iload_n hx hb dX8_walks_104 rfl (lv_at hl 3 rfl) ?_
      refine lv_imul hx hb dX8_walks_105 ?_
      refine lv_aload_n hx hb dX8_walks_106 rfl (lv_at hl 0 rfl) ?_
      refine va_get (D := D) (ci := 8) (v := .int (σ.1 0 11)) (C := RX8) (T := TX8) (N := 32) hx hb hts hiX8 hown hK hP 0 wMg0 rfl 11 (by decide) (hts (.fieldLink RX8 39 "ArcGuesserModel" "three" "I") (List.mem_of_getElem? (i := 3) rfl)) (fun _ h9 => h9) rfl dX8_walks_107 ?_
      refine lv_iload hx hb dX8_walks_110 (lv_at hl 4 rfl) ?_
      refine lv_imul hx hb dX8_walks_112 ?_
      refine lv_iadd hx hb dX8_walks_113 ?_
      exact W.iret (v := (((σ.1 0 10) * v3) + ((σ.1 0 11) * v4))) hx hb hr (fun t ht hW => ⟨⟨(((σ.1 0 10) * v3) + ((σ.1 0 11) * v4)), σ, rfl, hq, by rw [ht]; exact hP, hD⟩, hS.F ht⟩) hS.2.2 dX8_walks_114
    · have hq := hq.2 hc
      refine lv_aload_n hx hb dX8_walks_17 rfl (lv_at hl 0 rfl) ?_
      refine lv_iload_n hx hb dX8_walks_18 rfl (lv_at hl 1 rfl) ?_
      refine lv_iload hx hb dX8_walks_19 (lv_at hl 5 rfl) ?_
      refine w_calli (va_runV (As := [.int p1, .int v5]) (rest := []) ⟨hx, hb, hml, hown, hts⟩ (mtX8_leads l D ad cA A σ p1 v5 _ hq) (cwV 2 hts gX8_walks_X8_leads rfl rfl rfl (by decide +kernel) ⟨Nat.le_of_ble_eq_true rfl, Nat.le_of_ble_eq_true rfl⟩) ⟨stW_blind nwM_ok, va_recv hK hP (ci := 8) (q0 := 0) rfl wMg0, stW_pass hA hS hN hK hP hD nwM_ok⟩ rfl rfl hl.1 rfl (lv_room (Nat.le_of_ble_eq_true rfl)) dX8_walks_21 ⟨Nat.le_of_ble_eq_true rfl, Nat.le_of_ble_eq_true rfl⟩) hS (fun r1 σ1 H locs hq hP hD hS => ?_)
      refine lv_if_eq (tgt := 94) hx hb dX8_walks_24 (by decide) (fun hc => ?_) (fun hc => ?_)
      · have hq := hq.1 hc
        refine lv_iinc (v := (v5 + (1 : Int32))) (lv' := [(5, .int (v5 + (1 : Int32))), (0, .ref (ad 0)), (1, .int p1), (2, .int p2), (3, .int v3), (4, .int v4)]) hx hb dX8_walks_94 hl (k := 5) rfl (by rfl) (by decide) rfl (fun ls hl => ?_)
        refine lv_goto (tgt := 8) hx hb dX8_walks_97 (by decide) ?_
        rw [hK8] at hq
        exact hq _ _ _ hP hD hS (lv_sub hl [1, 2, 3, 4, 5, 0] rfl)
      · have hq := hq.2 hc
        refine lv_iload_n hx hb dX8_walks_27 rfl (lv_at hl 3 rfl) ?_
        refine lv_aload_n hx hb dX8_walks_28 rfl (lv_at hl 0 rfl) ?_
        refine lv_iload hx hb dX8_walks_29 (lv_at hl 5 rfl) ?_
        refine lv_iload_n hx hb dX8_walks_31 rfl (lv_at hl 2 rfl) ?_
        refine w_calli (va_runV (As := [.int v5, .int p2]) (rest := [.int v3]) ⟨hx, hb, hml, hown, hts⟩ (mtX8_leads l D ad cA A σ1 v5 p2 _ hq) (cwV 2 hts gX8_walks_X8_leads rfl rfl rfl (by decide +kernel) ⟨Nat.le_of_ble_eq_true rfl, Nat.le_of_ble_eq_true rfl⟩) ⟨stW_blind nwM_ok, va_recv hK hP (ci := 8) (q0 := 0) rfl wMg0, stW_pass hA hS hN hK hP hD nwM_ok⟩ rfl rfl hl.1 rfl (lv_room (Nat.le_of_ble_eq_true rfl)) dX8_walks_32 ⟨Nat.le_of_ble_eq_true rfl, Nat.le_of_ble_eq_true rfl⟩) hS (fun r2 σ2 H locs hq hP hD hS => ?_)
        refine lv_if_eq (tgt := 42) hx hb dX8_walks_35 (by decide) (fun hc => ?_) (fun hc => ?_)
        · have hq := hq.1 hc
          refine lv_iconst (v := (0 : Int32)) hx hb dX8_walks_42 (by decide) ?_
          refine lv_iadd hx hb dX8_walks_43 ?_
          refine lv_istore_n (lv' := [(3, .int (v3 + (0 : Int32))), (0, .ref (ad 0)), (1, .int p1), (2, .int p2), (4, .int v4), (5, .int v5)]) hx hb dX8_walks_44 rfl hl (by decide) rfl (fun ls hl => ?_)
          refine lv_iconst (v := (0 : Int32)) hx hb dX8_walks_45 (by decide) ?_
          refine lv_istore (lv' := [(6, .int (0 : Int32)), (3, .int (v3 + (0 : Int32))), (0, .ref (ad 0)), (1, .int p1), (2, .int p2), (4, .int v4), (5, .int v5)]) hx hb dX8_walks_46 hl (by decide) rfl (fun ls hl => ?_)
          rw [hK48] at hq
          exact hq _ _ _ hP hD hS (lv_sub hl [2, 3, 4, 1, 5, 6, 0] rfl)
        · have hq := hq.2 hc
          refine lv_iconst (v := (1 : Int32)) hx hb dX8_walks_38 (by decide) ?_
          refine lv_goto (tgt := 43) hx hb dX8_walks_39 (by decide) ?_
          refine lv_iadd hx hb dX8_walks_43 ?_
          refine lv_istore_n (lv' := [(3, .int (v3 + (1 : Int32))), (0, .ref (ad 0)), (1, .int p1), (2, .int p2), (4, .int v4), (5, .int v5)]) hx hb dX8_walks_44 rfl hl (by decide) rfl (fun ls hl => ?_)
          refine lv_iconst (v := (0 : Int32)) hx hb dX8_walks_45 (by decide) ?_
          refine lv_istore (lv' := [(6, .int (0 : Int32)), (3, .int (v3 + (1 : Int32))), (0, .ref (ad 0)), (1, .int p1), (2, .int p2), (4, .int v4), (5, .int v5)]) hx hb dX8_walks_46 hl (by decide) rfl (fun ls hl => ?_)
          rw [hK48] at hq
          exact hq _ _ _ hP hD hS (lv_sub hl [2, 3, 4, 1, 5, 6, 0] rfl)
  have hk48 : ∀ (σ : Sto) (v3 : Int32) (v4 : Int32) (v5 : Int32) (v6 : Int32), X8_walks_b48 p1 p2 K8 K48 Post σ v3 v4 v5 v6 → K48 σ v3 v4 v5 v6 := by
    intro σ v3 v4 v5 v6 hq
    rw [hK48]
    intro H locs ls hP hD hS hl
    unfold X8_walks_b48 at hq
    refine lv_iload hx hb dX8_walks_48 (lv_at hl 6 rfl) ?_
    refine lv_aload_n hx hb dX8_walks_50 rfl (lv_at hl 0 rfl) ?_
    refine va_get (D := D) (ci := 8) (v := .int (σ.1 0 0)) (C := RX8) (T := TX8) (N := 32) hx hb hts hiX8 hown hK hP 0 wMg0 rfl 0 (by decide) (hts (.fieldLink RX8 7 "ArcGuesserModel" "n" "I") (List.mem_of_getElem? (i := 1) rfl)) (fun _ h9 => h9) rfl dX8_walks_51 ?_
    refine lv_icmp_ge (tgt := 94) hx hb dX8_walks_54 (by decide) (fun hc => ?_) (fun hc => ?_)
    · have hq := hq.1 hc
      refine lv_iinc (v := (v5 + (1 : Int32))) (lv' := [(5, .int (v5 + (1 : Int32))), (0, .ref (ad 0)), (1, .int p1), (2, .int p2), (3, .int v3), (4, .int v4), (6, .int v6)]) hx hb dX8_walks_94 hl (k := 5) rfl (by rfl) (by decide) rfl (fun ls hl => ?_)
      refine lv_goto (tgt := 8) hx hb dX8_walks_97 (by decide) ?_
      rw [hK8] at hq
      exact hq _ _ _ hP hD hS (lv_sub hl [1, 2, 3, 4, 5, 0] rfl)
    · have hq := hq.2 hc
      refine lv_iload hx hb dX8_walks_57 (lv_at hl 4 rfl) ?_
      refine lv_aload_n hx hb dX8_walks_59 rfl (lv_at hl 0 rfl) ?_
      refine lv_iload hx hb dX8_walks_60 (lv_at hl 5 rfl) ?_
      refine lv_iload hx hb dX8_walks_62 (lv_at hl 6 rfl) ?_
      refine w_calli (va_runV (As := [.int v5, .int v6]) (rest := [.int v4]) ⟨hx, hb, hml, hown, hts⟩ (mtX8_leads l D ad cA A σ v5 v6 _ hq) (cwV 2 hts gX8_walks_X8_leads rfl rfl rfl (by decide +kernel) ⟨Nat.le_of_ble_eq_true rfl, Nat.le_of_ble_eq_true rfl⟩) ⟨stW_blind nwM_ok, va_recv hK hP (ci := 8) (q0 := 0) rfl wMg0, stW_pass hA hS hN hK hP hD nwM_ok⟩ rfl rfl hl.1 rfl (lv_room (Nat.le_of_ble_eq_true rfl)) dX8_walks_64 ⟨Nat.le_of_ble_eq_true rfl, Nat.le_of_ble_eq_true rfl⟩) hS (fun r1 σ1 H locs hq hP hD hS => ?_)
      refine lv_if_eq (tgt := 84) hx hb dX8_walks_67 (by decide) (fun hc => ?_) (fun hc => ?_)
      · have hq := hq.1 hc
        refine lv_iconst (v := (0 : Int32)) hx hb dX8_walks_84 (by decide) ?_
        refine lv_iadd hx hb dX8_walks_85 ?_
        refine lv_istore (lv' := [(4, .int (v4 + (0 : Int32))), (0, .ref (ad 0)), (1, .int p1), (2, .int p2), (3, .int v3), (5, .int v5), (6, .int v6)]) hx hb dX8_walks_86 hl (by decide) rfl (fun ls hl => ?_)
        refine lv_iinc (v := (v6 + (1 : Int32))) (lv' := [(6, .int (v6 + (1 : Int32))), (4, .int (v4 + (0 : Int32))), (0, .ref (ad 0)), (1, .int p1), (2, .int p2), (3, .int v3), (5, .int v5)]) hx hb dX8_walks_88 hl (k := 6) rfl (by rfl) (by decide) rfl (fun ls hl => ?_)
        refine lv_goto (tgt := 48) hx hb dX8_walks_91 (by decide) ?_
        rw [hK48] at hq
        exact hq _ _ _ hP hD hS (lv_sub hl [2, 3, 4, 5, 1, 6, 0] rfl)
      · have hq := hq.2 hc
        refine lv_aload_n hx hb dX8_walks_70 rfl (lv_at hl 0 rfl) ?_
        refine lv_iload hx hb dX8_walks_71 (lv_at hl 6 rfl) ?_
        refine lv_iload_n hx hb dX8_walks_73 rfl (lv_at hl 2 rfl) ?_
        refine w_calli (va_runV (As := [.int v6, .int p2]) (rest := [.int v4]) ⟨hx, hb, hml, hown, hts⟩ (mtX8_leads l D ad cA A σ1 v6 p2 _ hq) (cwV 2 hts gX8_walks_X8_leads rfl rfl rfl (by decide +kernel) ⟨Nat.le_of_ble_eq_true rfl, Nat.le_of_ble_eq_true rfl⟩) ⟨stW_blind nwM_ok, va_recv hK hP (ci := 8) (q0 := 0) rfl wMg0, stW_pass hA hS hN hK hP hD nwM_ok⟩ rfl rfl hl.1 rfl (lv_room (Nat.le_of_ble_eq_true rfl)) dX8_walks_74 ⟨Nat.le_of_ble_eq_true rfl, Nat.le_of_ble_eq_true rfl⟩) hS (fun r2 σ2 H locs hq hP hD hS => ?_)
        refine lv_if_eq (tgt := 84) hx hb dX8_walks_77 (by decide) (fun hc => ?_) (fun hc => ?_)
        · have hq := hq.1 hc
          refine lv_iconst (v := (0 : Int32)) hx hb dX8_walks_84 (by decide) ?_
          refine lv_iadd hx hb dX8_walks_85 ?_
          refine lv_istore (lv' := [(4, .int (v4 + (0 : Int32))), (0, .ref (ad 0)), (1, .int p1), (2, .int p2), (3, .int v3), (5, .int v5), (6, .int v6)]) hx hb dX8_walks_86 hl (by decide) rfl (fun ls hl => ?_)
          refine lv_iinc (v := (v6 + (1 : Int32))) (lv' := [(6, .int (v6 + (1 : Int32))), (4, .int (v4 + (0 : Int32))), (0, .ref (ad 0)), (1, .int p1), (2, .int p2), (3, .int v3), (5, .int v5)]) hx hb dX8_walks_88 hl (k := 6) rfl (by rfl) (by decide) rfl (fun ls hl => ?_)
          refine lv_goto (tgt := 48) hx hb dX8_walks_91 (by decide) ?_
          rw [hK48] at hq
          exact hq _ _ _ hP hD hS (lv_sub hl [2, 3, 4, 5, 1, 6, 0] rfl)
        · have hq := hq.2 hc
          refine lv_iconst (v := (1 : Int32)) hx hb dX8_walks_80 (by decide) ?_
          refine lv_goto (tgt := 85) hx hb dX8_walks_81 (by decide) ?_
          refine lv_iadd hx hb dX8_walks_85 ?_
          refine lv_istore (lv' := [(4, .int (v4 + (1 : Int32))), (0, .ref (ad 0)), (1, .int p1), (2, .int p2), (3, .int v3), (5, .int v5), (6, .int v6)]) hx hb dX8_walks_86 hl (by decide) rfl (fun ls hl => ?_)
          refine lv_iinc (v := (v6 + (1 : Int32))) (lv' := [(6, .int (v6 + (1 : Int32))), (4, .int (v4 + (1 : Int32))), (0, .ref (ad 0)), (1, .int p1), (2, .int p2), (3, .int v3), (5, .int v5)]) hx hb dX8_walks_88 hl (k := 6) rfl (by rfl) (by decide) rfl (fun ls hl => ?_)
          refine lv_goto (tgt := 48) hx hb dX8_walks_91 (by decide) ?_
          rw [hK48] at hq
          exact hq _ _ _ hP hD hS (lv_sub hl [2, 3, 4, 5, 1, 6, 0] rfl)
  have hq := hwp K8 K48 hk8 hk48
  refine lv_iconst (v := (0 : Int32)) hx hb dX8_walks_0 (by decide) ?_
  refine lv_istore_n (lv' := [(3, .int (0 : Int32)), (0, .ref (ad 0)), (1, .int p1), (2, .int p2)]) hx hb dX8_walks_1 rfl hl (by decide) rfl (fun ls hl => ?_)
  refine lv_iconst (v := (0 : Int32)) hx hb dX8_walks_2 (by decide) ?_
  refine lv_istore (lv' := [(4, .int (0 : Int32)), (3, .int (0 : Int32)), (0, .ref (ad 0)), (1, .int p1), (2, .int p2)]) hx hb dX8_walks_3 hl (by decide) rfl (fun ls hl => ?_)
  refine lv_iconst (v := (0 : Int32)) hx hb dX8_walks_5 (by decide) ?_
  refine lv_istore (lv' := [(5, .int (0 : Int32)), (4, .int (0 : Int32)), (3, .int (0 : Int32)), (0, .ref (ad 0)), (1, .int p1), (2, .int p2)]) hx hb dX8_walks_6 hl (by decide) rfl (fun ls hl => ?_)
  rw [hK8] at hq
  exact hq _ _ _ hP hD hS (lv_sub hl [3, 4, 5, 2, 1, 0] rfl)
/-! ArcGuesserModel.steps(II)I -/
def X8_steps_b2 (p1 : Int32) (p2 : Int32) (K2 : Sto → Int32 → Prop) (K34 : Sto → Int32 → Prop) (K45 : Sto → Int32 → Int32 → Prop) (K77 : Sto → Int32 → Int32 → Prop) (K89 : Sto → Int32 → Int32 → Int32 → Prop) (Post : Int32 → Sto → Prop) (σ : Sto) (v3 : Int32) : Prop :=
  (((σ.1 0 0) ≤ v3 → (K34 σ (1 : Int32))) ∧ (¬ (σ.1 0 0) ≤ v3 → ((¬ v3 = p1 → (vp_in v3 12 ∧ (K2 (sI σ 11 (v3).toNatClampNeg (vp_nar .boolean (0 : Int32))) (v3 + (1 : Int32))))) ∧ (v3 = p1 → (vp_in v3 12 ∧ (K2 (sI σ 11 (v3).toNatClampNeg (vp_nar .boolean (1 : Int32))) (v3 + (1 : Int32))))))))
def X8_steps_b34 (p1 : Int32) (p2 : Int32) (K2 : Sto → Int32 → Prop) (K34 : Sto → Int32 → Prop) (K45 : Sto → Int32 → Int32 → Prop) (K77 : Sto → Int32 → Int32 → Prop) (K89 : Sto → Int32 → Int32 → Int32 → Prop) (Post : Int32 → Sto → Prop) (σ : Sto) (v3 : Int32) : Prop :=
  (((σ.1 0 0) ≤ v3 → (Post (0 : Int32) σ)) ∧ (¬ (σ.1 0 0) ≤ v3 → (K45 σ v3 (0 : Int32))))
def X8_steps_b45 (p1 : Int32) (p2 : Int32) (K2 : Sto → Int32 → Prop) (K34 : Sto → Int32 → Prop) (K45 : Sto → Int32 → Int32 → Prop) (K77 : Sto → Int32 → Int32 → Prop) (K89 : Sto → Int32 → Int32 → Int32 → Prop) (Post : Int32 → Sto → Prop) (σ : Sto) (v3 : Int32) (v4 : Int32) : Prop :=
  (((σ.1 0 0) ≤ v4 → (K77 σ v3 (0 : Int32))) ∧ (¬ (σ.1 0 0) ≤ v4 → (vp_in v4 12 ∧ (vp_in v4 12 ∧ (K45 (sI σ 12 (v4).toNatClampNeg (vp_nar .boolean (σ.1 11 (v4).toNatClampNeg))) v3 (v4 + (1 : Int32)))))))
def X8_steps_b77 (p1 : Int32) (p2 : Int32) (K2 : Sto → Int32 → Prop) (K34 : Sto → Int32 → Prop) (K45 : Sto → Int32 → Int32 → Prop) (K77 : Sto → Int32 → Int32 → Prop) (K89 : Sto → Int32 → Int32 → Int32 → Prop) (Post : Int32 → Sto → Prop) (σ : Sto) (v3 : Int32) (v4 : Int32) : Prop :=
  (((σ.1 0 0) ≤ v4 → (vp_in p2 12 ∧ (((σ.1 11 (p2).toNatClampNeg) = 0 → (K34 σ (v3 + (1 : Int32)))) ∧ (¬ (σ.1 11 (p2).toNatClampNeg) = 0 → (Post v3 σ))))) ∧ (¬ (σ.1 0 0) ≤ v4 → (K89 σ v3 v4 (0 : Int32))))
def X8_steps_b89 (p1 : Int32) (p2 : Int32) (K2 : Sto → Int32 → Prop) (K34 : Sto → Int32 → Prop) (K45 : Sto → Int32 → Int32 → Prop) (K77 : Sto → Int32 → Int32 → Prop) (K89 : Sto → Int32 → Int32 → Int32 → Prop) (Post : Int32 → Sto → Prop) (σ : Sto) (v3 : Int32) (v4 : Int32) (v5 : Int32) : Prop :=
  (((σ.1 0 0) ≤ v5 → (K77 σ v3 (v4 + (1 : Int32)))) ∧ (¬ (σ.1 0 0) ≤ v5 → (vp_in v4 12 ∧ (((σ.1 12 (v4).toNatClampNeg) = 0 → (K77 σ v3 (v4 + (1 : Int32)))) ∧ (¬ (σ.1 12 (v4).toNatClampNeg) = 0 → (vp_in v5 12 ∧ ((¬ (σ.1 11 (v5).toNatClampNeg) = 0 → (vp_in v5 12 ∧ (K89 (sI σ 11 (v5).toNatClampNeg (vp_nar .boolean (1 : Int32))) v3 v4 (v5 + (1 : Int32))))) ∧ ((σ.1 11 (v5).toNatClampNeg) = 0 → (X8_leads_wp σ v4 v5 (fun r1 σ1 => ((r1 = 0 → (vp_in v5 12 ∧ (K89 (sI σ1 11 (v5).toNatClampNeg (vp_nar .boolean (0 : Int32))) v3 v4 (v5 + (1 : Int32))))) ∧ (¬ r1 = 0 → (vp_in v5 12 ∧ (K89 (sI σ1 11 (v5).toNatClampNeg (vp_nar .boolean (1 : Int32))) v3 v4 (v5 + (1 : Int32))))))))))))))))
def X8_steps_wp (σ : Sto) (p1 : Int32) (p2 : Int32) (Post : Int32 → Sto → Prop) : Prop := ∀ (K2 : Sto → Int32 → Prop) (K34 : Sto → Int32 → Prop) (K45 : Sto → Int32 → Int32 → Prop) (K77 : Sto → Int32 → Int32 → Prop) (K89 : Sto → Int32 → Int32 → Int32 → Prop), (∀ (σ : Sto) (v3 : Int32), X8_steps_b2 p1 p2 K2 K34 K45 K77 K89 Post σ v3 → K2 σ v3) → (∀ (σ : Sto) (v3 : Int32), X8_steps_b34 p1 p2 K2 K34 K45 K77 K89 Post σ v3 → K34 σ v3) → (∀ (σ : Sto) (v3 : Int32) (v4 : Int32), X8_steps_b45 p1 p2 K2 K34 K45 K77 K89 Post σ v3 v4 → K45 σ v3 v4) → (∀ (σ : Sto) (v3 : Int32) (v4 : Int32), X8_steps_b77 p1 p2 K2 K34 K45 K77 K89 Post σ v3 v4 → K77 σ v3 v4) → (∀ (σ : Sto) (v3 : Int32) (v4 : Int32) (v5 : Int32), X8_steps_b89 p1 p2 K2 K34 K45 K77 K89 Post σ v3 v4 v5 → K89 σ v3 v4 v5) → 
  (K2 σ (0 : Int32))
set_option maxHeartbeats 4000000 in
set_option maxRecDepth 100000 in
theorem mtX8_steps (l : Launch) (D : va_G) (ad : Nat → Nat) (cA : Nat → ClassId) (A : Nat → Prop) (σ : Sto) (p1 : Int32) (p2 : Int32) (Post : Int32 → Sto → Prop) (hwp : X8_steps_wp σ p1 p2 Post) : Met l yX8_steps wsX8_steps ({ frames := 1, cells := 0, slots := 0, locals := 23 }) (va_Pc [.ref (ad 0), .int p1, .int p2] (stW D (tyM cA) nwM (wM ad cA) A σ)) (va_Qi Post (enW D (wM ad cA) A) A) 0 0 A := by
  refine Met.ofW (cc := cX8_steps) (maxL := 6) (ret := (some .int)) (by decide) rfl ?_
  intro p e s m args below meth c s₁ B hml hv
  obtain ⟨rfl, hA, hN, hP, hK, hD⟩ := hv
  have hx := B.exec
  have hb := B.bytes
  have hr := B.returns
  have hts := atoms_spec (ws := wsX8_steps) B.pre
  have hown : s.vm.findClass RX8 = some m.cls := findClass_of_methodNamed B.named
  have hlocks := B.notSynchronized
  have hiX8 : ∀ w ∈ wsX80, w ∈ wsX8_steps := by decide +kernel
  have hS : va_S A s.heap s.heap [] := va_S.rf
  have hl := lv_entry ([.ref (ad 0), .int p1, .int p2]) (n := 6) (Nat.le_of_ble_eq_true rfl)
  rw [lg_entry_eq]
  generalize (lg_sl ([.ref (ad 0), .int p1, .int p2]) ++ List.replicate (6 - (lg_sl ([.ref (ad 0), .int p1, .int p2])).length) Slot.unset).toArray = ls at hl ⊢
  have hl : lv_has ls 6 [(0, .ref (ad 0)), (1, .int p1), (2, .int p2)] := hl
  obtain ⟨K2, hK2⟩ : ∃ K : Sto → Int32 → Prop, K = fun (σ : Sto) (v3 : Int32) => ∀ (H : Heap) (locs : List Loc) (ls : Array Slot), va_P D vwCl ((wM ad cA) σ) H → va_D A ((wM ad cA) σ) → va_S A s.heap H locs → lv_has ls 6 [(0, .ref (ad 0)), (1, .int p1), (2, .int p2), (3, .int v3)] → W p l e (headSpec wsX8_steps ({ frames := 1, cells := 0, slots := 0, locals := 23 })).room s m ([.ref (ad 0), .int p1, .int p2] : List Value).toArray below meth c H locs 0 0 (MQ below (va_Qi Post (enW D (wM ad cA) A) A) ([.ref (ad 0), .int p1, .int p2] : List Value).toArray s 0 0 A) (F0 m 2 ls []) := ⟨_, rfl⟩
  obtain ⟨K34, hK34⟩ : ∃ K : Sto → Int32 → Prop, K = fun (σ : Sto) (v3 : Int32) => ∀ (H : Heap) (locs : List Loc) (ls : Array Slot), va_P D vwCl ((wM ad cA) σ) H → va_D A ((wM ad cA) σ) → va_S A s.heap H locs → lv_has ls 6 [(0, .ref (ad 0)), (2, .int p2), (3, .int v3)] → W p l e (headSpec wsX8_steps ({ frames := 1, cells := 0, slots := 0, locals := 23 })).room s m ([.ref (ad 0), .int p1, .int p2] : List Value).toArray below meth c H locs 0 0 (MQ below (va_Qi Post (enW D (wM ad cA) A) A) ([.ref (ad 0), .int p1, .int p2] : List Value).toArray s 0 0 A) (F0 m 34 ls []) := ⟨_, rfl⟩
  obtain ⟨K45, hK45⟩ : ∃ K : Sto → Int32 → Int32 → Prop, K = fun (σ : Sto) (v3 : Int32) (v4 : Int32) => ∀ (H : Heap) (locs : List Loc) (ls : Array Slot), va_P D vwCl ((wM ad cA) σ) H → va_D A ((wM ad cA) σ) → va_S A s.heap H locs → lv_has ls 6 [(0, .ref (ad 0)), (2, .int p2), (3, .int v3), (4, .int v4)] → W p l e (headSpec wsX8_steps ({ frames := 1, cells := 0, slots := 0, locals := 23 })).room s m ([.ref (ad 0), .int p1, .int p2] : List Value).toArray below meth c H locs 0 0 (MQ below (va_Qi Post (enW D (wM ad cA) A) A) ([.ref (ad 0), .int p1, .int p2] : List Value).toArray s 0 0 A) (F0 m 45 ls []) := ⟨_, rfl⟩
  obtain ⟨K77, hK77⟩ : ∃ K : Sto → Int32 → Int32 → Prop, K = fun (σ : Sto) (v3 : Int32) (v4 : Int32) => ∀ (H : Heap) (locs : List Loc) (ls : Array Slot), va_P D vwCl ((wM ad cA) σ) H → va_D A ((wM ad cA) σ) → va_S A s.heap H locs → lv_has ls 6 [(0, .ref (ad 0)), (2, .int p2), (3, .int v3), (4, .int v4)] → W p l e (headSpec wsX8_steps ({ frames := 1, cells := 0, slots := 0, locals := 23 })).room s m ([.ref (ad 0), .int p1, .int p2] : List Value).toArray below meth c H locs 0 0 (MQ below (va_Qi Post (enW D (wM ad cA) A) A) ([.ref (ad 0), .int p1, .int p2] : List Value).toArray s 0 0 A) (F0 m 77 ls []) := ⟨_, rfl⟩
  obtain ⟨K89, hK89⟩ : ∃ K : Sto → Int32 → Int32 → Int32 → Prop, K = fun (σ : Sto) (v3 : Int32) (v4 : Int32) (v5 : Int32) => ∀ (H : Heap) (locs : List Loc) (ls : Array Slot), va_P D vwCl ((wM ad cA) σ) H → va_D A ((wM ad cA) σ) → va_S A s.heap H locs → lv_has ls 6 [(0, .ref (ad 0)), (2, .int p2), (3, .int v3), (4, .int v4), (5, .int v5)] → W p l e (headSpec wsX8_steps ({ frames := 1, cells := 0, slots := 0, locals := 23 })).room s m ([.ref (ad 0), .int p1, .int p2] : List Value).toArray below meth c H locs 0 0 (MQ below (va_Qi Post (enW D (wM ad cA) A) A) ([.ref (ad 0), .int p1, .int p2] : List Value).toArray s 0 0 A) (F0 m 89 ls []) := ⟨_, rfl⟩
  have hk2 : ∀ (σ : Sto) (v3 : Int32), X8_steps_b2 p1 p2 K2 K34 K45 K77 K89 Post σ v3 → K2 σ v3 := by
    intro σ v3 hq
    rw [hK2]
    intro H locs ls hP hD hS hl
    unfold X8_steps_b2 at hq
    refine lv_iload_n hx hb dX8_steps_2 rfl (lv_at hl 3 rfl) ?_
    refine lv_aload_n hx hb dX8_steps_3 rfl (lv_at hl 0 rfl) ?_
    refine va_get (D := D) (ci := 8) (v := .int (σ.1 0 0)) (C := RX8) (T := TX8) (N := 32) hx hb hts hiX8 hown hK hP 0 wMg0 rfl 0 (by decide) (hts (.fieldLink RX8 7 "ArcGuesserModel" "n" "I") (List.mem_of_getElem? (i := 1) rfl)) (fun _ h9 => h9) rfl dX8_steps_4 ?_
    refine lv_icmp_ge (tgt := 32) hx hb dX8_steps_7 (by decide) (fun hc => ?_) (fun hc => ?_)
    · have hq := hq.1 hc
      refine lv_iconst (v := (1 : Int32)) hx hb dX8_steps_32 (by decide) ?_
      refine lv_istore_n (lv' := [(3, .int (1 : Int32)), (0, .ref (ad 0)), (1, .int p1), (2, .int p2)]) hx hb dX8_steps_33 rfl hl (by decide) rfl (fun ls hl => ?_)
      rw [hK34] at hq
      exact hq _ _ _ hP hD hS (lv_sub hl [1, 3, 0] rfl)
    · have hq := hq.2 hc
      refine lv_aload_n hx hb dX8_steps_10 rfl (lv_at hl 0 rfl) ?_
      refine va_get (D := D) (ci := 8) (v := .ref (ad 11)) (C := RX8) (T := TX8) (N := 32) hx hb hts hiX8 hown hK hP 0 wMg0 rfl 21 (by decide) (hts (.fieldLink RX8 59 "ArcGuesserModel" "met" "[Z") (List.mem_of_getElem? (i := 2) rfl)) (fun _ h9 => h9) rfl dX8_steps_11 ?_
      refine lv_iload_n hx hb dX8_steps_14 rfl (lv_at hl 3 rfl) ?_
      refine lv_iload_n hx hb dX8_steps_15 rfl (lv_at hl 3 rfl) ?_
      refine lv_iload_n hx hb dX8_steps_16 rfl (lv_at hl 1 rfl) ?_
      refine lv_icmp_ne (tgt := 24) hx hb dX8_steps_17 (by decide) (fun hc => ?_) (fun hc => ?_)
      · have hq := hq.1 hc
        refine lv_iconst (v := (0 : Int32)) hx hb dX8_steps_24 (by decide) ?_
        refine va_zast hx hb hK hP hD hS 11 2 wMg11 rfl hq.1 dX8_steps_25 (fun H locs hP hD hS => ?_)
        have hP := wMsP11 hP
        have hD := wMsD11 hD
        have hq := hq.2
        refine lv_iinc (v := (v3 + (1 : Int32))) (lv' := [(3, .int (v3 + (1 : Int32))), (0, .ref (ad 0)), (1, .int p1), (2, .int p2)]) hx hb dX8_steps_26 hl (k := 3) rfl (by rfl) (by decide) rfl (fun ls hl => ?_)
        refine lv_goto (tgt := 2) hx hb dX8_steps_29 (by decide) ?_
        rw [hK2] at hq
        exact hq _ _ _ hP hD hS (lv_sub hl [1, 2, 3, 0] rfl)
      · have hq := hq.2 hc
        refine lv_iconst (v := (1 : Int32)) hx hb dX8_steps_20 (by decide) ?_
        refine lv_goto (tgt := 25) hx hb dX8_steps_21 (by decide) ?_
        refine va_zast hx hb hK hP hD hS 11 2 wMg11 rfl hq.1 dX8_steps_25 (fun H locs hP hD hS => ?_)
        have hP := wMsP11 hP
        have hD := wMsD11 hD
        have hq := hq.2
        refine lv_iinc (v := (v3 + (1 : Int32))) (lv' := [(3, .int (v3 + (1 : Int32))), (0, .ref (ad 0)), (1, .int p1), (2, .int p2)]) hx hb dX8_steps_26 hl (k := 3) rfl (by rfl) (by decide) rfl (fun ls hl => ?_)
        refine lv_goto (tgt := 2) hx hb dX8_steps_29 (by decide) ?_
        rw [hK2] at hq
        exact hq _ _ _ hP hD hS (lv_sub hl [1, 2, 3, 0] rfl)
  have hk34 : ∀ (σ : Sto) (v3 : Int32), X8_steps_b34 p1 p2 K2 K34 K45 K77 K89 Post σ v3 → K34 σ v3 := by
    intro σ v3 hq
    rw [hK34]
    intro H locs ls hP hD hS hl
    unfold X8_steps_b34 at hq
    refine lv_iload_n hx hb dX8_steps_34 rfl (lv_at hl 2 rfl) ?_
    refine lv_aload_n hx hb dX8_steps_35 rfl (lv_at hl 0 rfl) ?_
    refine va_get (D := D) (ci := 8) (v := .int (σ.1 0 0)) (C := RX8) (T := TX8) (N := 32) hx hb hts hiX8 hown hK hP 0 wMg0 rfl 0 (by decide) (hts (.fieldLink RX8 7 "ArcGuesserModel" "n" "I") (List.mem_of_getElem? (i := 1) rfl)) (fun _ h9 => h9) rfl dX8_steps_36 ?_
    refine lv_icmp_ge (tgt := 170) hx hb dX8_steps_39 (by decide) (fun hc => ?_) (fun hc => ?_)
    · have hq := hq.1 hc
      refine lv_iconst (v := (0 : Int32)) hx hb dX8_steps_170 (by decide) ?_
      exact W.iret (v := (0 : Int32)) hx hb hr (fun t ht hW => ⟨⟨(0 : Int32), σ, rfl, hq, by rw [ht]; exact hP, hD⟩, hS.F ht⟩) hS.2.2 dX8_steps_171
    · have hq := hq.2 hc
      refine lv_iconst (v := (0 : Int32)) hx hb dX8_steps_42 (by decide) ?_
      refine lv_istore (lv' := [(4, .int (0 : Int32)), (0, .ref (ad 0)), (2, .int p2), (3, .int v3)]) hx hb dX8_steps_43 hl (by decide) rfl (fun ls hl => ?_)
      rw [hK45] at hq
      exact hq _ _ _ hP hD hS (lv_sub hl [1, 2, 3, 0] rfl)
  have hk45 : ∀ (σ : Sto) (v3 : Int32) (v4 : Int32), X8_steps_b45 p1 p2 K2 K34 K45 K77 K89 Post σ v3 v4 → K45 σ v3 v4 := by
    intro σ v3 v4 hq
    rw [hK45]
    intro H locs ls hP hD hS hl
    unfold X8_steps_b45 at hq
    refine lv_iload hx hb dX8_steps_45 (lv_at hl 3 rfl) ?_
    refine lv_aload_n hx hb dX8_steps_47 rfl (lv_at hl 0 rfl) ?_
    refine va_get (D := D) (ci := 8) (v := .int (σ.1 0 0)) (C := RX8) (T := TX8) (N := 32) hx hb hts hiX8 hown hK hP 0 wMg0 rfl 0 (by decide) (hts (.fieldLink RX8 7 "ArcGuesserModel" "n" "I") (List.mem_of_getElem? (i := 1) rfl)) (fun _ h9 => h9) rfl dX8_steps_48 ?_
    refine lv_icmp_ge (tgt := 74) hx hb dX8_steps_51 (by decide) (fun hc => ?_) (fun hc => ?_)
    · have hq := hq.1 hc
      refine lv_iconst (v := (0 : Int32)) hx hb dX8_steps_74 (by decide) ?_
      refine lv_istore (lv' := [(4, .int (0 : Int32)), (0, .ref (ad 0)), (2, .int p2), (3, .int v3)]) hx hb dX8_steps_75 hl (by decide) rfl (fun ls hl => ?_)
      rw [hK77] at hq
      exact hq _ _ _ hP hD hS (lv_sub hl [1, 2, 3, 0] rfl)
    · have hq := hq.2 hc
      refine lv_aload_n hx hb dX8_steps_54 rfl (lv_at hl 0 rfl) ?_
      refine va_get (D := D) (ci := 8) (v := .ref (ad 12)) (C := RX8) (T := TX8) (N := 32) hx hb hts hiX8 hown hK hP 0 wMg0 rfl 22 (by decide) (hts (.fieldLink RX8 62 "ArcGuesserModel" "now" "[Z") (List.mem_of_getElem? (i := 3) rfl)) (fun _ h9 => h9) rfl dX8_steps_55 ?_
      refine lv_iload hx hb dX8_steps_58 (lv_at hl 3 rfl) ?_
      refine lv_aload_n hx hb dX8_steps_60 rfl (lv_at hl 0 rfl) ?_
      refine va_get (D := D) (ci := 8) (v := .ref (ad 11)) (C := RX8) (T := TX8) (N := 32) hx hb hts hiX8 hown hK hP 0 wMg0 rfl 21 (by decide) (hts (.fieldLink RX8 59 "ArcGuesserModel" "met" "[Z") (List.mem_of_getElem? (i := 2) rfl)) (fun _ h9 => h9) rfl dX8_steps_61 ?_
      refine lv_iload hx hb dX8_steps_64 (lv_at hl 3 rfl) ?_
      refine va_zald hx hb hK hP 11 2 wMg11 rfl hq.1 dX8_steps_66 ?_
      have hq := hq.2
      refine va_zast hx hb hK hP hD hS 12 2 wMg12 rfl hq.1 dX8_steps_67 (fun H locs hP hD hS => ?_)
      have hP := wMsP12 hP
      have hD := wMsD12 hD
      have hq := hq.2
      refine lv_iinc (v := (v4 + (1 : Int32))) (lv' := [(4, .int (v4 + (1 : Int32))), (0, .ref (ad 0)), (2, .int p2), (3, .int v3)]) hx hb dX8_steps_68 hl (k := 3) rfl (by rfl) (by decide) rfl (fun ls hl => ?_)
      refine lv_goto (tgt := 45) hx hb dX8_steps_71 (by decide) ?_
      rw [hK45] at hq
      exact hq _ _ _ hP hD hS (lv_sub hl [1, 2, 3, 0] rfl)
  have hk77 : ∀ (σ : Sto) (v3 : Int32) (v4 : Int32), X8_steps_b77 p1 p2 K2 K34 K45 K77 K89 Post σ v3 v4 → K77 σ v3 v4 := by
    intro σ v3 v4 hq
    rw [hK77]
    intro H locs ls hP hD hS hl
    unfold X8_steps_b77 at hq
    refine lv_iload hx hb dX8_steps_77 (lv_at hl 3 rfl) ?_
    refine lv_aload_n hx hb dX8_steps_79 rfl (lv_at hl 0 rfl) ?_
    refine va_get (D := D) (ci := 8) (v := .int (σ.1 0 0)) (C := RX8) (T := TX8) (N := 32) hx hb hts hiX8 hown hK hP 0 wMg0 rfl 0 (by decide) (hts (.fieldLink RX8 7 "ArcGuesserModel" "n" "I") (List.mem_of_getElem? (i := 1) rfl)) (fun _ h9 => h9) rfl dX8_steps_80 ?_
    refine lv_icmp_ge (tgt := 153) hx hb dX8_steps_83 (by decide) (fun hc => ?_) (fun hc => ?_)
    · have hq := hq.1 hc
      refine lv_aload_n hx hb dX8_steps_153 rfl (lv_at hl 0 rfl) ?_
      refine va_get (D := D) (ci := 8) (v := .ref (ad 11)) (C := RX8) (T := TX8) (N := 32) hx hb hts hiX8 hown hK hP 0 wMg0 rfl 21 (by decide) (hts (.fieldLink RX8 59 "ArcGuesserModel" "met" "[Z") (List.mem_of_getElem? (i := 2) rfl)) (fun _ h9 => h9) rfl dX8_steps_154 ?_
      refine lv_iload_n hx hb dX8_steps_157 rfl (lv_at hl 1 rfl) ?_
      refine va_zald hx hb hK hP 11 2 wMg11 rfl hq.1 dX8_steps_158 ?_
      have hq := hq.2
      refine lv_if_eq (tgt := 164) hx hb dX8_steps_159 (by decide) (fun hc => ?_) (fun hc => ?_)
      · have hq := hq.1 hc
        refine lv_iinc (v := (v3 + (1 : Int32))) (lv' := [(3, .int (v3 + (1 : Int32))), (0, .ref (ad 0)), (2, .int p2), (4, .int v4)]) hx hb dX8_steps_164 hl (k := 2) rfl (by rfl) (by decide) rfl (fun ls hl => ?_)
        refine lv_goto (tgt := 34) hx hb dX8_steps_167 (by decide) ?_
        rw [hK34] at hq
        exact hq _ _ _ hP hD hS (lv_sub hl [1, 2, 0] rfl)
      · have hq := hq.2 hc
        refine lv_iload_n hx hb dX8_steps_162 rfl (lv_at hl 2 rfl) ?_
        exact W.iret (v := v3) hx hb hr (fun t ht hW => ⟨⟨v3, σ, rfl, hq, by rw [ht]; exact hP, hD⟩, hS.F ht⟩) hS.2.2 dX8_steps_163
    · have hq := hq.2 hc
      refine lv_iconst (v := (0 : Int32)) hx hb dX8_steps_86 (by decide) ?_
      refine lv_istore (lv' := [(5, .int (0 : Int32)), (0, .ref (ad 0)), (2, .int p2), (3, .int v3), (4, .int v4)]) hx hb dX8_steps_87 hl (by decide) rfl (fun ls hl => ?_)
      rw [hK89] at hq
      exact hq _ _ _ hP hD hS (lv_sub hl [1, 2, 3, 4, 0] rfl)
  have hk89 : ∀ (σ : Sto) (v3 : Int32) (v4 : Int32) (v5 : Int32), X8_steps_b89 p1 p2 K2 K34 K45 K77 K89 Post σ v3 v4 v5 → K89 σ v3 v4 v5 := by
    intro σ v3 v4 v5 hq
    rw [hK89]
    intro H locs ls hP hD hS hl
    unfold X8_steps_b89 at hq
    refine lv_iload hx hb dX8_steps_89 (lv_at hl 4 rfl) ?_
    refine lv_aload_n hx hb dX8_steps_91 rfl (lv_at hl 0 rfl) ?_
    refine va_get (D := D) (ci := 8) (v := .int (σ.1 0 0)) (C := RX8) (T := TX8) (N := 32) hx hb hts hiX8 hown hK hP 0 wMg0 rfl 0 (by decide) (hts (.fieldLink RX8 7 "ArcGuesserModel" "n" "I") (List.mem_of_getElem? (i := 1) rfl)) (fun _ h9 => h9) rfl dX8_steps_92 ?_
    refine lv_icmp_ge (tgt := 147) hx hb dX8_steps_95 (by decide) (fun hc => ?_) (fun hc => ?_)
    · have hq := hq.1 hc
      refine lv_iinc (v := (v4 + (1 : Int32))) (lv' := [(4, .int (v4 + (1 : Int32))), (0, .ref (ad 0)), (2, .int p2), (3, .int v3), (5, .int v5)]) hx hb dX8_steps_147 hl (k := 3) rfl (by rfl) (by decide) rfl (fun ls hl => ?_)
      refine lv_goto (tgt := 77) hx hb dX8_steps_150 (by decide) ?_
      rw [hK77] at hq
      exact hq _ _ _ hP hD hS (lv_sub hl [1, 2, 3, 0] rfl)
    · have hq := hq.2 hc
      refine lv_aload_n hx hb dX8_steps_98 rfl (lv_at hl 0 rfl) ?_
      refine va_get (D := D) (ci := 8) (v := .ref (ad 12)) (C := RX8) (T := TX8) (N := 32) hx hb hts hiX8 hown hK hP 0 wMg0 rfl 22 (by decide) (hts (.fieldLink RX8 62 "ArcGuesserModel" "now" "[Z") (List.mem_of_getElem? (i := 3) rfl)) (fun _ h9 => h9) rfl dX8_steps_99 ?_
      refine lv_iload hx hb dX8_steps_102 (lv_at hl 3 rfl) ?_
      refine va_zald hx hb hK hP 12 2 wMg12 rfl hq.1 dX8_steps_104 ?_
      have hq := hq.2
      refine lv_if_eq (tgt := 147) hx hb dX8_steps_105 (by decide) (fun hc => ?_) (fun hc => ?_)
      · have hq := hq.1 hc
        refine lv_iinc (v := (v4 + (1 : Int32))) (lv' := [(4, .int (v4 + (1 : Int32))), (0, .ref (ad 0)), (2, .int p2), (3, .int v3), (5, .int v5)]) hx hb dX8_steps_147 hl (k := 3) rfl (by rfl) (by decide) rfl (fun ls hl => ?_)
        refine lv_goto (tgt := 77) hx hb dX8_steps_150 (by decide) ?_
        rw [hK77] at hq
        exact hq _ _ _ hP hD hS (lv_sub hl [1, 2, 3, 0] rfl)
      · have hq := hq.2 hc
        refine lv_aload_n hx hb dX8_steps_108 rfl (lv_at hl 0 rfl) ?_
        refine va_get (D := D) (ci := 8) (v := .ref (ad 11)) (C := RX8) (T := TX8) (N := 32) hx hb hts hiX8 hown hK hP 0 wMg0 rfl 21 (by decide) (hts (.fieldLink RX8 59 "ArcGuesserModel" "met" "[Z") (List.mem_of_getElem? (i := 2) rfl)) (fun _ h9 => h9) rfl dX8_steps_109 ?_
        refine lv_iload hx hb dX8_steps_112 (lv_at hl 4 rfl) ?_
        refine lv_aload_n hx hb dX8_steps_114 rfl (lv_at hl 0 rfl) ?_
        refine va_get (D := D) (ci := 8) (v := .ref (ad 11)) (C := RX8) (T := TX8) (N := 32) hx hb hts hiX8 hown hK hP 0 wMg0 rfl 21 (by decide) (hts (.fieldLink RX8 59 "ArcGuesserModel" "met" "[Z") (List.mem_of_getElem? (i := 2) rfl)) (fun _ h9 => h9) rfl dX8_steps_115 ?_
        refine lv_iload hx hb dX8_steps_118 (lv_at hl 4 rfl) ?_
        refine va_zald hx hb hK hP 11 2 wMg11 rfl hq.1 dX8_steps_120 ?_
        have hq := hq.2
        refine lv_if_ne (tgt := 135) hx hb dX8_steps_121 (by decide) (fun hc => ?_) (fun hc => ?_)
        · have hq := hq.1 hc
          refine lv_iconst (v := (1 : Int32)) hx hb dX8_steps_135 (by decide) ?_
          refine lv_goto (tgt := 140) hx hb dX8_steps_136 (by decide) ?_
          refine va_zast hx hb hK hP hD hS 11 2 wMg11 rfl hq.1 dX8_steps_140 (fun H locs hP hD hS => ?_)
          have hP := wMsP11 hP
          have hD := wMsD11 hD
          have hq := hq.2
          refine lv_iinc (v := (v5 + (1 : Int32))) (lv' := [(5, .int (v5 + (1 : Int32))), (0, .ref (ad 0)), (2, .int p2), (3, .int v3), (4, .int v4)]) hx hb dX8_steps_141 hl (k := 4) rfl (by rfl) (by decide) rfl (fun ls hl => ?_)
          refine lv_goto (tgt := 89) hx hb dX8_steps_144 (by decide) ?_
          rw [hK89] at hq
          exact hq _ _ _ hP hD hS (lv_sub hl [1, 2, 3, 4, 0] rfl)
        · have hq := hq.2 hc
          refine lv_aload_n hx hb dX8_steps_124 rfl (lv_at hl 0 rfl) ?_
          refine lv_iload hx hb dX8_steps_125 (lv_at hl 3 rfl) ?_
          refine lv_iload hx hb dX8_steps_127 (lv_at hl 4 rfl) ?_
          refine w_calli (va_runV (As := [.int v4, .int v5]) (rest := [.int v5, .ref (ad 11)]) ⟨hx, hb, hml, hown, hts⟩ (mtX8_leads l D ad cA A σ v4 v5 _ hq) (cwV 2 hts gX8_steps_X8_leads rfl rfl rfl (by decide +kernel) ⟨Nat.le_of_ble_eq_true rfl, Nat.le_of_ble_eq_true rfl⟩) ⟨stW_blind nwM_ok, va_recv hK hP (ci := 8) (q0 := 0) rfl wMg0, stW_pass hA hS hN hK hP hD nwM_ok⟩ rfl rfl hl.1 rfl (lv_room (Nat.le_of_ble_eq_true rfl)) dX8_steps_129 ⟨Nat.le_of_ble_eq_true rfl, Nat.le_of_ble_eq_true rfl⟩) hS (fun r1 σ1 H locs hq hP hD hS => ?_)
          refine lv_if_eq (tgt := 139) hx hb dX8_steps_132 (by decide) (fun hc => ?_) (fun hc => ?_)
          · have hq := hq.1 hc
            refine lv_iconst (v := (0 : Int32)) hx hb dX8_steps_139 (by decide) ?_
            refine va_zast hx hb hK hP hD hS 11 2 wMg11 rfl hq.1 dX8_steps_140 (fun H locs hP hD hS => ?_)
            have hP := wMsP11 hP
            have hD := wMsD11 hD
            have hq := hq.2
            refine lv_iinc (v := (v5 + (1 : Int32))) (lv' := [(5, .int (v5 + (1 : Int32))), (0, .ref (ad 0)), (2, .int p2), (3, .int v3), (4, .int v4)]) hx hb dX8_steps_141 hl (k := 4) rfl (by rfl) (by decide) rfl (fun ls hl => ?_)
            refine lv_goto (tgt := 89) hx hb dX8_steps_144 (by decide) ?_
            rw [hK89] at hq
            exact hq _ _ _ hP hD hS (lv_sub hl [1, 2, 3, 4, 0] rfl)
          · have hq := hq.2 hc
            refine lv_iconst (v := (1 : Int32)) hx hb dX8_steps_135 (by decide) ?_
            refine lv_goto (tgt := 140) hx hb dX8_steps_136 (by decide) ?_
            refine va_zast hx hb hK hP hD hS 11 2 wMg11 rfl hq.1 dX8_steps_140 (fun H locs hP hD hS => ?_)
            have hP := wMsP11 hP
            have hD := wMsD11 hD
            have hq := hq.2
            refine lv_iinc (v := (v5 + (1 : Int32))) (lv' := [(5, .int (v5 + (1 : Int32))), (0, .ref (ad 0)), (2, .int p2), (3, .int v3), (4, .int v4)]) hx hb dX8_steps_141 hl (k := 4) rfl (by rfl) (by decide) rfl (fun ls hl => ?_)
            refine lv_goto (tgt := 89) hx hb dX8_steps_144 (by decide) ?_
            rw [hK89] at hq
            exact hq _ _ _ hP hD hS (lv_sub hl [1, 2, 3, 4, 0] rfl)
  have hq := hwp K2 K34 K45 K77 K89 hk2 hk34 hk45 hk77 hk89
  refine lv_iconst (v := (0 : Int32)) hx hb dX8_steps_0 (by decide) ?_
  refine lv_istore_n (lv' := [(3, .int (0 : Int32)), (0, .ref (ad 0)), (1, .int p1), (2, .int p2)]) hx hb dX8_steps_1 rfl hl (by decide) rfl (fun ls hl => ?_)
  rw [hK2] at hq
  exact hq _ _ _ hP hD hS (lv_sub hl [1, 2, 3, 0] rfl)
/-! ArcGuesserModel.wander(II)V -/
def X8_wander_b41 (p1 : Int32) (p2 : Int32) (K41 : Sto → Int32 → Prop) (Post : Sto → Prop) (σ : Sto) (v3 : Int32) : Prop :=
  (((σ.1 0 0) ≤ v3 → (Post σ)) ∧ (¬ (σ.1 0 0) ≤ v3 → (X8_leads_wp σ p1 v3 (fun r1 σ1 => ((r1 = 0 → (K41 σ1 (v3 + (1 : Int32)))) ∧ (¬ r1 = 0 → (X8_leads_wp σ1 v3 p2 (fun r2 σ2 => ((r2 = 0 → (K41 σ2 (v3 + (1 : Int32)))) ∧ (¬ r2 = 0 → (X8_outs_wp σ2 p1 (fun r3 σ3 => (X8_outs_wp σ3 v3 (fun r4 σ4 => (X8_plus_wp σ4 (1 : Int64) ((r3).toInt64 * (r4).toInt64) (fun σ5 => (K41 σ5 (v3 + (1 : Int32)))))))))))))))))))
def X8_wander_wp (σ : Sto) (p1 : Int32) (p2 : Int32) (Post : Sto → Prop) : Prop := ∀ (K41 : Sto → Int32 → Prop), (∀ (σ : Sto) (v3 : Int32), X8_wander_b41 p1 p2 K41 Post σ v3 → K41 σ v3) → 
  ((¬ (σ.1 0 12) = (1 : Int32) → (X8_make_wp σ (0 : Int64) (1 : Int64) (fun σ1 => (K41 σ1 (0 : Int32))))) ∧ ((σ.1 0 12) = (1 : Int32) → (X8_leads_wp σ p1 p2 (fun r2 σ2 => ((r2 = 0 → (X8_outs_wp σ2 p1 (fun r3 σ3 => (X8_make_wp σ3 (0 : Int64) (r3).toInt64 (fun σ4 => (Post σ4)))))) ∧ (¬ r2 = 0 → (X8_outs_wp σ2 p1 (fun r5 σ5 => (X8_make_wp σ5 (1 : Int64) (r5).toInt64 (fun σ6 => (Post σ6)))))))))))
set_option maxHeartbeats 4000000 in
set_option maxRecDepth 100000 in
theorem mtX8_wander (l : Launch) (D : va_G) (ad : Nat → Nat) (cA : Nat → ClassId) (A : Nat → Prop) (σ : Sto) (p1 : Int32) (p2 : Int32) (Post : Sto → Prop) (hwp : X8_wander_wp σ p1 p2 Post) : Met l yX8_wander wsX8_wander ({ frames := 3, cells := 0, slots := 0, locals := 81 }) (va_Pc [.ref (ad 0), .int p1, .int p2] (stW D (tyM cA) nwM (wM ad cA) A σ)) (va_Qv Post (enW D (wM ad cA) A) A) 0 0 A := by
  refine Met.ofW (cc := cX8_wander) (maxL := 4) (ret := none) (by decide) rfl ?_
  intro p e s m args below meth c s₁ B hml hv
  obtain ⟨rfl, hA, hN, hP, hK, hD⟩ := hv
  have hx := B.exec
  have hb := B.bytes
  have hr := B.returns
  have hts := atoms_spec (ws := wsX8_wander) B.pre
  have hown : s.vm.findClass RX8 = some m.cls := findClass_of_methodNamed B.named
  have hlocks := B.notSynchronized
  have hiX8 : ∀ w ∈ wsX80, w ∈ wsX8_wander := by decide +kernel
  have hS : va_S A s.heap s.heap [] := va_S.rf
  have hl := lv_entry ([.ref (ad 0), .int p1, .int p2]) (n := 4) (Nat.le_of_ble_eq_true rfl)
  rw [lg_entry_eq]
  generalize (lg_sl ([.ref (ad 0), .int p1, .int p2]) ++ List.replicate (4 - (lg_sl ([.ref (ad 0), .int p1, .int p2])).length) Slot.unset).toArray = ls at hl ⊢
  have hl : lv_has ls 4 [(0, .ref (ad 0)), (1, .int p1), (2, .int p2)] := hl
  obtain ⟨K41, hK41⟩ : ∃ K : Sto → Int32 → Prop, K = fun (σ : Sto) (v3 : Int32) => ∀ (H : Heap) (locs : List Loc) (ls : Array Slot), va_P D vwCl ((wM ad cA) σ) H → va_D A ((wM ad cA) σ) → va_S A s.heap H locs → lv_has ls 4 [(0, .ref (ad 0)), (1, .int p1), (2, .int p2), (3, .int v3)] → W p l e (headSpec wsX8_wander ({ frames := 3, cells := 0, slots := 0, locals := 81 })).room s m ([.ref (ad 0), .int p1, .int p2] : List Value).toArray below meth c H locs 0 0 (MQ below (va_Qv Post (enW D (wM ad cA) A) A) ([.ref (ad 0), .int p1, .int p2] : List Value).toArray s 0 0 A) (F0 m 41 ls []) := ⟨_, rfl⟩
  have hk41 : ∀ (σ : Sto) (v3 : Int32), X8_wander_b41 p1 p2 K41 Post σ v3 → K41 σ v3 := by
    intro σ v3 hq
    rw [hK41]
    intro H locs ls hP hD hS hl
    unfold X8_wander_b41 at hq
    refine lv_iload_n hx hb dX8_wander_41 rfl (lv_at hl 3 rfl) ?_
    refine lv_aload_n hx hb dX8_wander_42 rfl (lv_at hl 0 rfl) ?_
    refine va_get (D := D) (ci := 8) (v := .int (σ.1 0 0)) (C := RX8) (T := TX8) (N := 32) hx hb hts hiX8 hown hK hP 0 wMg0 rfl 0 (by decide) (hts (.fieldLink RX8 7 "ArcGuesserModel" "n" "I") (List.mem_of_getElem? (i := 2) rfl)) (fun _ h9 => h9) rfl dX8_wander_43 ?_
    refine lv_icmp_ge (tgt := 91) hx hb dX8_wander_46 (by decide) (fun hc => ?_) (fun hc => ?_)
    · have hq := hq.1 hc
      exact W.vret hx hb hr (fun t ht hW => ⟨⟨σ, rfl, hq, by rw [ht]; exact hP, hD⟩, hS.F ht⟩) hS.2.2 dX8_wander_91
    · have hq := hq.2 hc
      refine lv_aload_n hx hb dX8_wander_49 rfl (lv_at hl 0 rfl) ?_
      refine lv_iload_n hx hb dX8_wander_50 rfl (lv_at hl 1 rfl) ?_
      refine lv_iload_n hx hb dX8_wander_51 rfl (lv_at hl 3 rfl) ?_
      refine w_calli (va_runV (As := [.int p1, .int v3]) (rest := []) ⟨hx, hb, hml, hown, hts⟩ (mtX8_leads l D ad cA A σ p1 v3 _ hq) (cwV 2 hts gX8_wander_X8_leads rfl rfl rfl (by decide +kernel) ⟨Nat.le_of_ble_eq_true rfl, Nat.le_of_ble_eq_true rfl⟩) ⟨stW_blind nwM_ok, va_recv hK hP (ci := 8) (q0 := 0) rfl wMg0, stW_pass hA hS hN hK hP hD nwM_ok⟩ rfl rfl hl.1 rfl (lv_room (Nat.le_of_ble_eq_true rfl)) dX8_wander_52 ⟨Nat.le_of_ble_eq_true rfl, Nat.le_of_ble_eq_true rfl⟩) hS (fun r1 σ1 H locs hq hP hD hS => ?_)
      refine lv_if_eq (tgt := 85) hx hb dX8_wander_55 (by decide) (fun hc => ?_) (fun hc => ?_)
      · have hq := hq.1 hc
        refine lv_iinc (v := (v3 + (1 : Int32))) (lv' := [(3, .int (v3 + (1 : Int32))), (0, .ref (ad 0)), (1, .int p1), (2, .int p2)]) hx hb dX8_wander_85 hl (k := 3) rfl (by rfl) (by decide) rfl (fun ls hl => ?_)
        refine lv_goto (tgt := 41) hx hb dX8_wander_88 (by decide) ?_
        rw [hK41] at hq
        exact hq _ _ _ hP hD hS (lv_sub hl [1, 2, 3, 0] rfl)
      · have hq := hq.2 hc
        refine lv_aload_n hx hb dX8_wander_58 rfl (lv_at hl 0 rfl) ?_
        refine lv_iload_n hx hb dX8_wander_59 rfl (lv_at hl 3 rfl) ?_
        refine lv_iload_n hx hb dX8_wander_60 rfl (lv_at hl 2 rfl) ?_
        refine w_calli (va_runV (As := [.int v3, .int p2]) (rest := []) ⟨hx, hb, hml, hown, hts⟩ (mtX8_leads l D ad cA A σ1 v3 p2 _ hq) (cwV 2 hts gX8_wander_X8_leads rfl rfl rfl (by decide +kernel) ⟨Nat.le_of_ble_eq_true rfl, Nat.le_of_ble_eq_true rfl⟩) ⟨stW_blind nwM_ok, va_recv hK hP (ci := 8) (q0 := 0) rfl wMg0, stW_pass hA hS hN hK hP hD nwM_ok⟩ rfl rfl hl.1 rfl (lv_room (Nat.le_of_ble_eq_true rfl)) dX8_wander_61 ⟨Nat.le_of_ble_eq_true rfl, Nat.le_of_ble_eq_true rfl⟩) hS (fun r2 σ2 H locs hq hP hD hS => ?_)
        refine lv_if_eq (tgt := 85) hx hb dX8_wander_64 (by decide) (fun hc => ?_) (fun hc => ?_)
        · have hq := hq.1 hc
          refine lv_iinc (v := (v3 + (1 : Int32))) (lv' := [(3, .int (v3 + (1 : Int32))), (0, .ref (ad 0)), (1, .int p1), (2, .int p2)]) hx hb dX8_wander_85 hl (k := 3) rfl (by rfl) (by decide) rfl (fun ls hl => ?_)
          refine lv_goto (tgt := 41) hx hb dX8_wander_88 (by decide) ?_
          rw [hK41] at hq
          exact hq _ _ _ hP hD hS (lv_sub hl [1, 2, 3, 0] rfl)
        · have hq := hq.2 hc
          refine lv_aload_n hx hb dX8_wander_67 rfl (lv_at hl 0 rfl) ?_
          refine lv_lconst (v := (1 : Int64)) hx hb dX8_wander_68 (by decide) ?_
          refine lv_aload_n hx hb dX8_wander_69 rfl (lv_at hl 0 rfl) ?_
          refine lv_iload_n hx hb dX8_wander_70 rfl (lv_at hl 1 rfl) ?_
          refine w_calli (va_runV (As := [.int p1]) (rest := [.long (1 : Int64), .ref (ad 0)]) ⟨hx, hb, hml, hown, hts⟩ (mtX8_outs l D ad cA A σ2 p1 _ hq) (cwV 1 hts gX8_wander_X8_outs rfl rfl rfl (by decide +kernel) ⟨Nat.le_of_ble_eq_true rfl, Nat.le_of_ble_eq_true rfl⟩) ⟨stW_blind nwM_ok, va_recv hK hP (ci := 8) (q0 := 0) rfl wMg0, stW_pass hA hS hN hK hP hD nwM_ok⟩ rfl rfl hl.1 rfl (lv_room (Nat.le_of_ble_eq_true rfl)) dX8_wander_71 ⟨Nat.le_of_ble_eq_true rfl, Nat.le_of_ble_eq_true rfl⟩) hS (fun r3 σ3 H locs hq hP hD hS => ?_)
          refine lv_i2l hx hb dX8_wander_74 rfl ?_
          refine lv_aload_n hx hb dX8_wander_75 rfl (lv_at hl 0 rfl) ?_
          refine lv_iload_n hx hb dX8_wander_76 rfl (lv_at hl 3 rfl) ?_
          refine w_calli (va_runV (As := [.int v3]) (rest := [.long (r3).toInt64, .long (1 : Int64), .ref (ad 0)]) ⟨hx, hb, hml, hown, hts⟩ (mtX8_outs l D ad cA A σ3 v3 _ hq) (cwV 1 hts gX8_wander_X8_outs rfl rfl rfl (by decide +kernel) ⟨Nat.le_of_ble_eq_true rfl, Nat.le_of_ble_eq_true rfl⟩) ⟨stW_blind nwM_ok, va_recv hK hP (ci := 8) (q0 := 0) rfl wMg0, stW_pass hA hS hN hK hP hD nwM_ok⟩ rfl rfl hl.1 rfl (lv_room (Nat.le_of_ble_eq_true rfl)) dX8_wander_77 ⟨Nat.le_of_ble_eq_true rfl, Nat.le_of_ble_eq_true rfl⟩) hS (fun r4 σ4 H locs hq hP hD hS => ?_)
          refine lv_i2l hx hb dX8_wander_80 rfl ?_
          refine lv_lmul hx hb dX8_wander_81 ?_
          refine w_callv (va_runV (As := [.long (1 : Int64), .long ((r3).toInt64 * (r4).toInt64)]) (rest := []) ⟨hx, hb, hml, hown, hts⟩ (mtX8_plus l D ad cA A σ4 (1 : Int64) ((r3).toInt64 * (r4).toInt64) _ hq) (cwV 2 hts gX8_wander_X8_plus rfl rfl rfl (by decide +kernel) ⟨Nat.le_of_ble_eq_true rfl, Nat.le_of_ble_eq_true rfl⟩) ⟨stW_blind nwM_ok, va_recv hK hP (ci := 8) (q0 := 0) rfl wMg0, stW_pass hA hS hN hK hP hD nwM_ok⟩ rfl rfl hl.1 rfl (lv_room (Nat.le_of_ble_eq_true rfl)) dX8_wander_82 ⟨Nat.le_of_ble_eq_true rfl, Nat.le_of_ble_eq_true rfl⟩) hS (fun σ5 H locs hq hP hD hS => ?_)
          refine lv_iinc (v := (v3 + (1 : Int32))) (lv' := [(3, .int (v3 + (1 : Int32))), (0, .ref (ad 0)), (1, .int p1), (2, .int p2)]) hx hb dX8_wander_85 hl (k := 3) rfl (by rfl) (by decide) rfl (fun ls hl => ?_)
          refine lv_goto (tgt := 41) hx hb dX8_wander_88 (by decide) ?_
          rw [hK41] at hq
          exact hq _ _ _ hP hD hS (lv_sub hl [1, 2, 3, 0] rfl)
  have hq := hwp K41 hk41
  refine lv_aload_n hx hb dX8_wander_0 rfl (lv_at hl 0 rfl) ?_
  refine va_get (D := D) (ci := 8) (v := .int (σ.1 0 12)) (C := RX8) (T := TX8) (N := 32) hx hb hts hiX8 hown hK hP 0 wMg0 rfl 12 (by decide) (hts (.fieldLink RX8 42 "ArcGuesserModel" "steps" "I") (List.mem_of_getElem? (i := 1) rfl)) (fun _ h9 => h9) rfl dX8_wander_1 ?_
  refine lv_iconst (v := (1 : Int32)) hx hb dX8_wander_4 (by decide) ?_
  refine lv_icmp_ne (tgt := 33) hx hb dX8_wander_5 (by decide) (fun hc => ?_) (fun hc => ?_)
  · have hq := hq.1 hc
    refine lv_aload_n hx hb dX8_wander_33 rfl (lv_at hl 0 rfl) ?_
    refine lv_lconst (v := (0 : Int64)) hx hb dX8_wander_34 (by decide) ?_
    refine lv_lconst (v := (1 : Int64)) hx hb dX8_wander_35 (by decide) ?_
    refine w_callv (va_runV (As := [.long (0 : Int64), .long (1 : Int64)]) (rest := []) ⟨hx, hb, hml, hown, hts⟩ (mtX8_make l D ad cA A σ (0 : Int64) (1 : Int64) _ hq) (cwV 2 hts gX8_wander_X8_make rfl rfl rfl (by decide +kernel) ⟨Nat.le_of_ble_eq_true rfl, Nat.le_of_ble_eq_true rfl⟩) ⟨stW_blind nwM_ok, va_recv hK hP (ci := 8) (q0 := 0) rfl wMg0, stW_pass hA hS hN hK hP hD nwM_ok⟩ rfl rfl hl.1 rfl (lv_room (Nat.le_of_ble_eq_true rfl)) dX8_wander_36 ⟨Nat.le_of_ble_eq_true rfl, Nat.le_of_ble_eq_true rfl⟩) hS (fun σ1 H locs hq hP hD hS => ?_)
    refine lv_iconst (v := (0 : Int32)) hx hb dX8_wander_39 (by decide) ?_
    refine lv_istore_n (lv' := [(3, .int (0 : Int32)), (0, .ref (ad 0)), (1, .int p1), (2, .int p2)]) hx hb dX8_wander_40 rfl hl (by decide) rfl (fun ls hl => ?_)
    rw [hK41] at hq
    exact hq _ _ _ hP hD hS (lv_sub hl [1, 2, 3, 0] rfl)
  · have hq := hq.2 hc
    refine lv_aload_n hx hb dX8_wander_8 rfl (lv_at hl 0 rfl) ?_
    refine lv_aload_n hx hb dX8_wander_9 rfl (lv_at hl 0 rfl) ?_
    refine lv_iload_n hx hb dX8_wander_10 rfl (lv_at hl 1 rfl) ?_
    refine lv_iload_n hx hb dX8_wander_11 rfl (lv_at hl 2 rfl) ?_
    refine w_calli (va_runV (As := [.int p1, .int p2]) (rest := [.ref (ad 0)]) ⟨hx, hb, hml, hown, hts⟩ (mtX8_leads l D ad cA A σ p1 p2 _ hq) (cwV 2 hts gX8_wander_X8_leads rfl rfl rfl (by decide +kernel) ⟨Nat.le_of_ble_eq_true rfl, Nat.le_of_ble_eq_true rfl⟩) ⟨stW_blind nwM_ok, va_recv hK hP (ci := 8) (q0 := 0) rfl wMg0, stW_pass hA hS hN hK hP hD nwM_ok⟩ rfl rfl hl.1 rfl (lv_room (Nat.le_of_ble_eq_true rfl)) dX8_wander_12 ⟨Nat.le_of_ble_eq_true rfl, Nat.le_of_ble_eq_true rfl⟩) hS (fun r2 σ2 H locs hq hP hD hS => ?_)
    refine lv_if_eq (tgt := 22) hx hb dX8_wander_15 (by decide) (fun hc => ?_) (fun hc => ?_)
    · have hq := hq.1 hc
      refine lv_lconst (v := (0 : Int64)) hx hb dX8_wander_22 (by decide) ?_
      refine lv_aload_n hx hb dX8_wander_23 rfl (lv_at hl 0 rfl) ?_
      refine lv_iload_n hx hb dX8_wander_24 rfl (lv_at hl 1 rfl) ?_
      refine w_calli (va_runV (As := [.int p1]) (rest := [.long (0 : Int64), .ref (ad 0)]) ⟨hx, hb, hml, hown, hts⟩ (mtX8_outs l D ad cA A σ2 p1 _ hq) (cwV 1 hts gX8_wander_X8_outs rfl rfl rfl (by decide +kernel) ⟨Nat.le_of_ble_eq_true rfl, Nat.le_of_ble_eq_true rfl⟩) ⟨stW_blind nwM_ok, va_recv hK hP (ci := 8) (q0 := 0) rfl wMg0, stW_pass hA hS hN hK hP hD nwM_ok⟩ rfl rfl hl.1 rfl (lv_room (Nat.le_of_ble_eq_true rfl)) dX8_wander_25 ⟨Nat.le_of_ble_eq_true rfl, Nat.le_of_ble_eq_true rfl⟩) hS (fun r3 σ3 H locs hq hP hD hS => ?_)
      refine lv_i2l hx hb dX8_wander_28 rfl ?_
      refine w_callv (va_runV (As := [.long (0 : Int64), .long (r3).toInt64]) (rest := []) ⟨hx, hb, hml, hown, hts⟩ (mtX8_make l D ad cA A σ3 (0 : Int64) (r3).toInt64 _ hq) (cwV 2 hts gX8_wander_X8_make rfl rfl rfl (by decide +kernel) ⟨Nat.le_of_ble_eq_true rfl, Nat.le_of_ble_eq_true rfl⟩) ⟨stW_blind nwM_ok, va_recv hK hP (ci := 8) (q0 := 0) rfl wMg0, stW_pass hA hS hN hK hP hD nwM_ok⟩ rfl rfl hl.1 rfl (lv_room (Nat.le_of_ble_eq_true rfl)) dX8_wander_29 ⟨Nat.le_of_ble_eq_true rfl, Nat.le_of_ble_eq_true rfl⟩) hS (fun σ4 H locs hq hP hD hS => ?_)
      exact W.vret hx hb hr (fun t ht hW => ⟨⟨σ4, rfl, hq, by rw [ht]; exact hP, hD⟩, hS.F ht⟩) hS.2.2 dX8_wander_32
    · have hq := hq.2 hc
      refine lv_lconst (v := (1 : Int64)) hx hb dX8_wander_18 (by decide) ?_
      refine lv_goto (tgt := 23) hx hb dX8_wander_19 (by decide) ?_
      refine lv_aload_n hx hb dX8_wander_23 rfl (lv_at hl 0 rfl) ?_
      refine lv_iload_n hx hb dX8_wander_24 rfl (lv_at hl 1 rfl) ?_
      refine w_calli (va_runV (As := [.int p1]) (rest := [.long (1 : Int64), .ref (ad 0)]) ⟨hx, hb, hml, hown, hts⟩ (mtX8_outs l D ad cA A σ2 p1 _ hq) (cwV 1 hts gX8_wander_X8_outs rfl rfl rfl (by decide +kernel) ⟨Nat.le_of_ble_eq_true rfl, Nat.le_of_ble_eq_true rfl⟩) ⟨stW_blind nwM_ok, va_recv hK hP (ci := 8) (q0 := 0) rfl wMg0, stW_pass hA hS hN hK hP hD nwM_ok⟩ rfl rfl hl.1 rfl (lv_room (Nat.le_of_ble_eq_true rfl)) dX8_wander_25 ⟨Nat.le_of_ble_eq_true rfl, Nat.le_of_ble_eq_true rfl⟩) hS (fun r5 σ5 H locs hq hP hD hS => ?_)
      refine lv_i2l hx hb dX8_wander_28 rfl ?_
      refine w_callv (va_runV (As := [.long (1 : Int64), .long (r5).toInt64]) (rest := []) ⟨hx, hb, hml, hown, hts⟩ (mtX8_make l D ad cA A σ5 (1 : Int64) (r5).toInt64 _ hq) (cwV 2 hts gX8_wander_X8_make rfl rfl rfl (by decide +kernel) ⟨Nat.le_of_ble_eq_true rfl, Nat.le_of_ble_eq_true rfl⟩) ⟨stW_blind nwM_ok, va_recv hK hP (ci := 8) (q0 := 0) rfl wMg0, stW_pass hA hS hN hK hP hD nwM_ok⟩ rfl rfl hl.1 rfl (lv_room (Nat.le_of_ble_eq_true rfl)) dX8_wander_29 ⟨Nat.le_of_ble_eq_true rfl, Nat.le_of_ble_eq_true rfl⟩) hS (fun σ6 H locs hq hP hD hS => ?_)
      exact W.vret hx hb hr (fun t ht hW => ⟨⟨σ6, rfl, hq, by rw [ht]; exact hP, hD⟩, hS.F ht⟩) hS.2.2 dX8_wander_32
/-! ArcGuesserModel.grouped(II)V -/
def X8_grouped_b27 (p1 : Int32) (p2 : Int32) (K27 : Sto → Int32 → Int32 → Int64 → Int64 → Int64 → Int32 → Prop) (K82 : Sto → Int32 → Int32 → Int64 → Int64 → Int64 → Int32 → Int32 → Prop) (Post : Sto → Prop) (σ : Sto) (v3 : Int32) (v4 : Int32) (v5 : Int64) (v7 : Int64) (v9 : Int64) (v11 : Int32) : Prop :=
  (((σ.1 0 0) ≤ v11 → (X8_make_wp σ v5 (v7 * v9) (fun σ1 => (Post σ1)))) ∧ (¬ (σ.1 0 0) ≤ v11 → (vp_in v11 12 ∧ ((¬ (σ.1 6 (v11).toNatClampNeg) = v3 → (vp_in v11 12 ∧ ((¬ (σ.1 6 (v11).toNatClampNeg) = v4 → (K82 σ v3 v4 v5 (v7 + (0 : Int64)) (v9 + (0 : Int64)) v11 (0 : Int32))) ∧ ((σ.1 6 (v11).toNatClampNeg) = v4 → (K82 σ v3 v4 v5 (v7 + (0 : Int64)) (v9 + (1 : Int64)) v11 (0 : Int32)))))) ∧ ((σ.1 6 (v11).toNatClampNeg) = v3 → (vp_in v11 12 ∧ ((¬ (σ.1 6 (v11).toNatClampNeg) = v4 → (K82 σ v3 v4 v5 (v7 + (1 : Int64)) (v9 + (0 : Int64)) v11 (0 : Int32))) ∧ ((σ.1 6 (v11).toNatClampNeg) = v4 → (K82 σ v3 v4 v5 (v7 + (1 : Int64)) (v9 + (1 : Int64)) v11 (0 : Int32))))))))))
def X8_grouped_b82 (p1 : Int32) (p2 : Int32) (K27 : Sto → Int32 → Int32 → Int64 → Int64 → Int64 → Int32 → Prop) (K82 : Sto → Int32 → Int32 → Int64 → Int64 → Int64 → Int32 → Int32 → Prop) (Post : Sto → Prop) (σ : Sto) (v3 : Int32) (v4 : Int32) (v5 : Int64) (v7 : Int64) (v9 : Int64) (v11 : Int32) (v12 : Int32) : Prop :=
  (((σ.1 0 0) ≤ v12 → (K27 σ v3 v4 v5 v7 v9 (v11 + (1 : Int32)))) ∧ (¬ (σ.1 0 0) ≤ v12 → (X8_leads_wp σ v11 v12 (fun r1 σ1 => ((r1 = 0 → (K82 σ1 v3 v4 (v5 + (0 : Int64)) v7 v9 v11 (v12 + (1 : Int32)))) ∧ (¬ r1 = 0 → (vp_in v11 12 ∧ ((¬ (σ1.1 6 (v11).toNatClampNeg) = v3 → (K82 σ1 v3 v4 (v5 + (0 : Int64)) v7 v9 v11 (v12 + (1 : Int32)))) ∧ ((σ1.1 6 (v11).toNatClampNeg) = v3 → (vp_in v12 12 ∧ ((¬ (σ1.1 6 (v12).toNatClampNeg) = v4 → (K82 σ1 v3 v4 (v5 + (0 : Int64)) v7 v9 v11 (v12 + (1 : Int32)))) ∧ ((σ1.1 6 (v12).toNatClampNeg) = v4 → (K82 σ1 v3 v4 (v5 + (1 : Int64)) v7 v9 v11 (v12 + (1 : Int32)))))))))))))))
def X8_grouped_wp (σ : Sto) (p1 : Int32) (p2 : Int32) (Post : Sto → Prop) : Prop := ∀ (K27 : Sto → Int32 → Int32 → Int64 → Int64 → Int64 → Int32 → Prop) (K82 : Sto → Int32 → Int32 → Int64 → Int64 → Int64 → Int32 → Int32 → Prop), (∀ (σ : Sto) (v3 : Int32) (v4 : Int32) (v5 : Int64) (v7 : Int64) (v9 : Int64) (v11 : Int32), X8_grouped_b27 p1 p2 K27 K82 Post σ v3 v4 v5 v7 v9 v11 → K27 σ v3 v4 v5 v7 v9 v11) → (∀ (σ : Sto) (v3 : Int32) (v4 : Int32) (v5 : Int64) (v7 : Int64) (v9 : Int64) (v11 : Int32) (v12 : Int32), X8_grouped_b82 p1 p2 K27 K82 Post σ v3 v4 v5 v7 v9 v11 v12 → K82 σ v3 v4 v5 v7 v9 v11 v12) → 
  (vp_in p1 12 ∧ (vp_in p2 12 ∧ (K27 σ (σ.1 6 (p1).toNatClampNeg) (σ.1 6 (p2).toNatClampNeg) (0 : Int64) (0 : Int64) (0 : Int64) (0 : Int32))))
set_option maxHeartbeats 4000000 in
set_option maxRecDepth 100000 in
theorem mtX8_grouped (l : Launch) (D : va_G) (ad : Nat → Nat) (cA : Nat → ClassId) (A : Nat → Prop) (σ : Sto) (p1 : Int32) (p2 : Int32) (Post : Sto → Prop) (hwp : X8_grouped_wp σ p1 p2 Post) : Met l yX8_grouped wsX8_grouped ({ frames := 2, cells := 0, slots := 0, locals := 55 }) (va_Pc [.ref (ad 0), .int p1, .int p2] (stW D (tyM cA) nwM (wM ad cA) A σ)) (va_Qv Post (enW D (wM ad cA) A) A) 0 0 A := by
  refine Met.ofW (cc := cX8_grouped) (maxL := 13) (ret := none) (by decide) rfl ?_
  intro p e s m args below meth c s₁ B hml hv
  obtain ⟨rfl, hA, hN, hP, hK, hD⟩ := hv
  have hx := B.exec
  have hb := B.bytes
  have hr := B.returns
  have hts := atoms_spec (ws := wsX8_grouped) B.pre
  have hown : s.vm.findClass RX8 = some m.cls := findClass_of_methodNamed B.named
  have hlocks := B.notSynchronized
  have hiX8 : ∀ w ∈ wsX80, w ∈ wsX8_grouped := by decide +kernel
  have hS : va_S A s.heap s.heap [] := va_S.rf
  have hl := lv_entry ([.ref (ad 0), .int p1, .int p2]) (n := 13) (Nat.le_of_ble_eq_true rfl)
  rw [lg_entry_eq]
  generalize (lg_sl ([.ref (ad 0), .int p1, .int p2]) ++ List.replicate (13 - (lg_sl ([.ref (ad 0), .int p1, .int p2])).length) Slot.unset).toArray = ls at hl ⊢
  have hl : lv_has ls 13 [(0, .ref (ad 0)), (1, .int p1), (2, .int p2)] := hl
  obtain ⟨K27, hK27⟩ : ∃ K : Sto → Int32 → Int32 → Int64 → Int64 → Int64 → Int32 → Prop, K = fun (σ : Sto) (v3 : Int32) (v4 : Int32) (v5 : Int64) (v7 : Int64) (v9 : Int64) (v11 : Int32) => ∀ (H : Heap) (locs : List Loc) (ls : Array Slot), va_P D vwCl ((wM ad cA) σ) H → va_D A ((wM ad cA) σ) → va_S A s.heap H locs → lv_has ls 13 [(0, .ref (ad 0)), (3, .int v3), (4, .int v4), (5, .long v5), (7, .long v7), (9, .long v9), (11, .int v11)] → W p l e (headSpec wsX8_grouped ({ frames := 2, cells := 0, slots := 0, locals := 55 })).room s m ([.ref (ad 0), .int p1, .int p2] : List Value).toArray below meth c H locs 0 0 (MQ below (va_Qv Post (enW D (wM ad cA) A) A) ([.ref (ad 0), .int p1, .int p2] : List Value).toArray s 0 0 A) (F0 m 27 ls []) := ⟨_, rfl⟩
  obtain ⟨K82, hK82⟩ : ∃ K : Sto → Int32 → Int32 → Int64 → Int64 → Int64 → Int32 → Int32 → Prop, K = fun (σ : Sto) (v3 : Int32) (v4 : Int32) (v5 : Int64) (v7 : Int64) (v9 : Int64) (v11 : Int32) (v12 : Int32) => ∀ (H : Heap) (locs : List Loc) (ls : Array Slot), va_P D vwCl ((wM ad cA) σ) H → va_D A ((wM ad cA) σ) → va_S A s.heap H locs → lv_has ls 13 [(0, .ref (ad 0)), (3, .int v3), (4, .int v4), (5, .long v5), (7, .long v7), (9, .long v9), (11, .int v11), (12, .int v12)] → W p l e (headSpec wsX8_grouped ({ frames := 2, cells := 0, slots := 0, locals := 55 })).room s m ([.ref (ad 0), .int p1, .int p2] : List Value).toArray below meth c H locs 0 0 (MQ below (va_Qv Post (enW D (wM ad cA) A) A) ([.ref (ad 0), .int p1, .int p2] : List Value).toArray s 0 0 A) (F0 m 82 ls []) := ⟨_, rfl⟩
  have hk27 : ∀ (σ : Sto) (v3 : Int32) (v4 : Int32) (v5 : Int64) (v7 : Int64) (v9 : Int64) (v11 : Int32), X8_grouped_b27 p1 p2 K27 K82 Post σ v3 v4 v5 v7 v9 v11 → K27 σ v3 v4 v5 v7 v9 v11 := by
    intro σ v3 v4 v5 v7 v9 v11 hq
    rw [hK27]
    intro H locs ls hP hD hS hl
    unfold X8_grouped_b27 at hq
    refine lv_iload hx hb dX8_grouped_27 (lv_at hl 6 rfl) ?_
    refine lv_aload_n hx hb dX8_grouped_29 rfl (lv_at hl 0 rfl) ?_
    refine va_get (D := D) (ci := 8) (v := .int (σ.1 0 0)) (C := RX8) (T := TX8) (N := 32) hx hb hts hiX8 hown hK hP 0 wMg0 rfl 0 (by decide) (hts (.fieldLink RX8 7 "ArcGuesserModel" "n" "I") (List.mem_of_getElem? (i := 2) rfl)) (fun _ h9 => h9) rfl dX8_grouped_30 ?_
    refine lv_icmp_ge (tgt := 147) hx hb dX8_grouped_33 (by decide) (fun hc => ?_) (fun hc => ?_)
    · have hq := hq.1 hc
      refine lv_aload_n hx hb dX8_grouped_147 rfl (lv_at hl 0 rfl) ?_
      refine lv_lload hx hb dX8_grouped_148 (lv_at hl 3 rfl) ?_
      refine lv_lload hx hb dX8_grouped_150 (lv_at hl 4 rfl) ?_
      refine lv_lload hx hb dX8_grouped_152 (lv_at hl 5 rfl) ?_
      refine lv_lmul hx hb dX8_grouped_154 ?_
      refine w_callv (va_runV (As := [.long v5, .long (v7 * v9)]) (rest := []) ⟨hx, hb, hml, hown, hts⟩ (mtX8_make l D ad cA A σ v5 (v7 * v9) _ hq) (cwV 2 hts gX8_grouped_X8_make rfl rfl rfl (by decide +kernel) ⟨Nat.le_of_ble_eq_true rfl, Nat.le_of_ble_eq_true rfl⟩) ⟨stW_blind nwM_ok, va_recv hK hP (ci := 8) (q0 := 0) rfl wMg0, stW_pass hA hS hN hK hP hD nwM_ok⟩ rfl rfl hl.1 rfl (lv_room (Nat.le_of_ble_eq_true rfl)) dX8_grouped_155 ⟨Nat.le_of_ble_eq_true rfl, Nat.le_of_ble_eq_true rfl⟩) hS (fun σ1 H locs hq hP hD hS => ?_)
      exact W.vret hx hb hr (fun t ht hW => ⟨⟨σ1, rfl, hq, by rw [ht]; exact hP, hD⟩, hS.F ht⟩) hS.2.2 dX8_grouped_158
    · have hq := hq.2 hc
      refine lv_lload hx hb dX8_grouped_36 (lv_at hl 4 rfl) ?_
      refine lv_aload_n hx hb dX8_grouped_38 rfl (lv_at hl 0 rfl) ?_
      refine va_get (D := D) (ci := 8) (v := .ref (ad 6)) (C := RX8) (T := TX8) (N := 32) hx hb hts hiX8 hown hK hP 0 wMg0 rfl 8 (by decide) (hts (.fieldLink RX8 30 "ArcGuesserModel" "groups" "[I") (List.mem_of_getElem? (i := 1) rfl)) (fun _ h9 => h9) rfl dX8_grouped_39 ?_
      refine lv_iload hx hb dX8_grouped_42 (lv_at hl 6 rfl) ?_
      refine va_iald hx hb hK hP 6 0 wMg6 rfl hq.1 dX8_grouped_44 ?_
      have hq := hq.2
      refine lv_iload_n hx hb dX8_grouped_45 rfl (lv_at hl 1 rfl) ?_
      refine lv_icmp_ne (tgt := 53) hx hb dX8_grouped_46 (by decide) (fun hc => ?_) (fun hc => ?_)
      · have hq := hq.1 hc
        refine lv_lconst (v := (0 : Int64)) hx hb dX8_grouped_53 (by decide) ?_
        refine lv_ladd hx hb dX8_grouped_54 ?_
        refine lv_lstore (lv' := [(7, .long (v7 + (0 : Int64))), (0, .ref (ad 0)), (3, .int v3), (4, .int v4), (5, .long v5), (9, .long v9), (11, .int v11)]) hx hb dX8_grouped_55 hl (by decide) rfl (fun ls hl => ?_)
        refine lv_lload hx hb dX8_grouped_57 (lv_at hl 5 rfl) ?_
        refine lv_aload_n hx hb dX8_grouped_59 rfl (lv_at hl 1 rfl) ?_
        refine va_get (D := D) (ci := 8) (v := .ref (ad 6)) (C := RX8) (T := TX8) (N := 32) hx hb hts hiX8 hown hK hP 0 wMg0 rfl 8 (by decide) (hts (.fieldLink RX8 30 "ArcGuesserModel" "groups" "[I") (List.mem_of_getElem? (i := 1) rfl)) (fun _ h9 => h9) rfl dX8_grouped_60 ?_
        refine lv_iload hx hb dX8_grouped_63 (lv_at hl 6 rfl) ?_
        refine va_iald hx hb hK hP 6 0 wMg6 rfl hq.1 dX8_grouped_65 ?_
        have hq := hq.2
        refine lv_iload hx hb dX8_grouped_66 (lv_at hl 3 rfl) ?_
        refine lv_icmp_ne (tgt := 75) hx hb dX8_grouped_68 (by decide) (fun hc => ?_) (fun hc => ?_)
        · have hq := hq.1 hc
          refine lv_lconst (v := (0 : Int64)) hx hb dX8_grouped_75 (by decide) ?_
          refine lv_ladd hx hb dX8_grouped_76 ?_
          refine lv_lstore (lv' := [(9, .long (v9 + (0 : Int64))), (7, .long (v7 + (0 : Int64))), (0, .ref (ad 0)), (3, .int v3), (4, .int v4), (5, .long v5), (11, .int v11)]) hx hb dX8_grouped_77 hl (by decide) rfl (fun ls hl => ?_)
          refine lv_iconst (v := (0 : Int32)) hx hb dX8_grouped_79 (by decide) ?_
          refine lv_istore (lv' := [(12, .int (0 : Int32)), (9, .long (v9 + (0 : Int64))), (7, .long (v7 + (0 : Int64))), (0, .ref (ad 0)), (3, .int v3), (4, .int v4), (5, .long v5), (11, .int v11)]) hx hb dX8_grouped_80 hl (by decide) rfl (fun ls hl => ?_)
          rw [hK82] at hq
          exact hq _ _ _ hP hD hS (lv_sub hl [3, 4, 5, 6, 2, 1, 7, 0] rfl)
        · have hq := hq.2 hc
          refine lv_lconst (v := (1 : Int64)) hx hb dX8_grouped_71 (by decide) ?_
          refine lv_goto (tgt := 76) hx hb dX8_grouped_72 (by decide) ?_
          refine lv_ladd hx hb dX8_grouped_76 ?_
          refine lv_lstore (lv' := [(9, .long (v9 + (1 : Int64))), (7, .long (v7 + (0 : Int64))), (0, .ref (ad 0)), (3, .int v3), (4, .int v4), (5, .long v5), (11, .int v11)]) hx hb dX8_grouped_77 hl (by decide) rfl (fun ls hl => ?_)
          refine lv_iconst (v := (0 : Int32)) hx hb dX8_grouped_79 (by decide) ?_
          refine lv_istore (lv' := [(12, .int (0 : Int32)), (9, .long (v9 + (1 : Int64))), (7, .long (v7 + (0 : Int64))), (0, .ref (ad 0)), (3, .int v3), (4, .int v4), (5, .long v5), (11, .int v11)]) hx hb dX8_grouped_80 hl (by decide) rfl (fun ls hl => ?_)
          rw [hK82] at hq
          exact hq _ _ _ hP hD hS (lv_sub hl [3, 4, 5, 6, 2, 1, 7, 0] rfl)
      · have hq := hq.2 hc
        refine lv_lconst (v := (1 : Int64)) hx hb dX8_grouped_49 (by decide) ?_
        refine lv_goto (tgt := 54) hx hb dX8_grouped_50 (by decide) ?_
        refine lv_ladd hx hb dX8_grouped_54 ?_
        refine lv_lstore (lv' := [(7, .long (v7 + (1 : Int64))), (0, .ref (ad 0)), (3, .int v3), (4, .int v4), (5, .long v5), (9, .long v9), (11, .int v11)]) hx hb dX8_grouped_55 hl (by decide) rfl (fun ls hl => ?_)
        refine lv_lload hx hb dX8_grouped_57 (lv_at hl 5 rfl) ?_
        refine lv_aload_n hx hb dX8_grouped_59 rfl (lv_at hl 1 rfl) ?_
        refine va_get (D := D) (ci := 8) (v := .ref (ad 6)) (C := RX8) (T := TX8) (N := 32) hx hb hts hiX8 hown hK hP 0 wMg0 rfl 8 (by decide) (hts (.fieldLink RX8 30 "ArcGuesserModel" "groups" "[I") (List.mem_of_getElem? (i := 1) rfl)) (fun _ h9 => h9) rfl dX8_grouped_60 ?_
        refine lv_iload hx hb dX8_grouped_63 (lv_at hl 6 rfl) ?_
        refine va_iald hx hb hK hP 6 0 wMg6 rfl hq.1 dX8_grouped_65 ?_
        have hq := hq.2
        refine lv_iload hx hb dX8_grouped_66 (lv_at hl 3 rfl) ?_
        refine lv_icmp_ne (tgt := 75) hx hb dX8_grouped_68 (by decide) (fun hc => ?_) (fun hc => ?_)
        · have hq := hq.1 hc
          refine lv_lconst (v := (0 : Int64)) hx hb dX8_grouped_75 (by decide) ?_
          refine lv_ladd hx hb dX8_grouped_76 ?_
          refine lv_lstore (lv' := [(9, .long (v9 + (0 : Int64))), (7, .long (v7 + (1 : Int64))), (0, .ref (ad 0)), (3, .int v3), (4, .int v4), (5, .long v5), (11, .int v11)]) hx hb dX8_grouped_77 hl (by decide) rfl (fun ls hl => ?_)
          refine lv_iconst (v := (0 : Int32)) hx hb dX8_grouped_79 (by decide) ?_
          refine lv_istore (lv' := [(12, .int (0 : Int32)), (9, .long (v9 + (0 : Int64))), (7, .long (v7 + (1 : Int64))), (0, .ref (ad 0)), (3, .int v3), (4, .int v4), (5, .long v5), (11, .int v11)]) hx hb dX8_grouped_80 hl (by decide) rfl (fun ls hl => ?_)
          rw [hK82] at hq
          exact hq _ _ _ hP hD hS (lv_sub hl [3, 4, 5, 6, 2, 1, 7, 0] rfl)
        · have hq := hq.2 hc
          refine lv_lconst (v := (1 : Int64)) hx hb dX8_grouped_71 (by decide) ?_
          refine lv_goto (tgt := 76) hx hb dX8_grouped_72 (by decide) ?_
          refine lv_ladd hx hb dX8_grouped_76 ?_
          refine lv_lstore (lv' := [(9, .long (v9 + (1 : Int64))), (7, .long (v7 + (1 : Int64))), (0, .ref (ad 0)), (3, .int v3), (4, .int v4), (5, .long v5), (11, .int v11)]) hx hb dX8_grouped_77 hl (by decide) rfl (fun ls hl => ?_)
          refine lv_iconst (v := (0 : Int32)) hx hb dX8_grouped_79 (by decide) ?_
          refine lv_istore (lv' := [(12, .int (0 : Int32)), (9, .long (v9 + (1 : Int64))), (7, .long (v7 + (1 : Int64))), (0, .ref (ad 0)), (3, .int v3), (4, .int v4), (5, .long v5), (11, .int v11)]) hx hb dX8_grouped_80 hl (by decide) rfl (fun ls hl => ?_)
          rw [hK82] at hq
          exact hq _ _ _ hP hD hS (lv_sub hl [3, 4, 5, 6, 2, 1, 7, 0] rfl)
  have hk82 : ∀ (σ : Sto) (v3 : Int32) (v4 : Int32) (v5 : Int64) (v7 : Int64) (v9 : Int64) (v11 : Int32) (v12 : Int32), X8_grouped_b82 p1 p2 K27 K82 Post σ v3 v4 v5 v7 v9 v11 v12 → K82 σ v3 v4 v5 v7 v9 v11 v12 := by
    intro σ v3 v4 v5 v7 v9 v11 v12 hq
    rw [hK82]
    intro H locs ls hP hD hS hl
    unfold X8_grouped_b82 at hq
    refine lv_iload hx hb dX8_grouped_82 (lv_at hl 7 rfl) ?_
    refine lv_aload_n hx hb dX8_grouped_84 rfl (lv_at hl 0 rfl) ?_
    refine va_get (D := D) (ci := 8) (v := .int (σ.1 0 0)) (C := RX8) (T := TX8) (N := 32) hx hb hts hiX8 hown hK hP 0 wMg0 rfl 0 (by decide) (hts (.fieldLink RX8 7 "ArcGuesserModel" "n" "I") (List.mem_of_getElem? (i := 2) rfl)) (fun _ h9 => h9) rfl dX8_grouped_85 ?_
    refine lv_icmp_ge (tgt := 141) hx hb dX8_grouped_88 (by decide) (fun hc => ?_) (fun hc => ?_)
    · have hq := hq.1 hc
      refine lv_iinc (v := (v11 + (1 : Int32))) (lv' := [(11, .int (v11 + (1 : Int32))), (0, .ref (ad 0)), (3, .int v3), (4, .int v4), (5, .long v5), (7, .long v7), (9, .long v9), (12, .int v12)]) hx hb dX8_grouped_141 hl (k := 6) rfl (by rfl) (by decide) rfl (fun ls hl => ?_)
      refine lv_goto (tgt := 27) hx hb dX8_grouped_144 (by decide) ?_
      rw [hK27] at hq
      exact hq _ _ _ hP hD hS (lv_sub hl [1, 2, 3, 4, 5, 6, 0] rfl)
    · have hq := hq.2 hc
      refine lv_lload hx hb dX8_grouped_91 (lv_at hl 3 rfl) ?_
      refine lv_aload_n hx hb dX8_grouped_93 rfl (lv_at hl 0 rfl) ?_
      refine lv_iload hx hb dX8_grouped_94 (lv_at hl 6 rfl) ?_
      refine lv_iload hx hb dX8_grouped_96 (lv_at hl 7 rfl) ?_
      refine w_calli (va_runV (As := [.int v11, .int v12]) (rest := [.long v5]) ⟨hx, hb, hml, hown, hts⟩ (mtX8_leads l D ad cA A σ v11 v12 _ hq) (cwV 2 hts gX8_grouped_X8_leads rfl rfl rfl (by decide +kernel) ⟨Nat.le_of_ble_eq_true rfl, Nat.le_of_ble_eq_true rfl⟩) ⟨stW_blind nwM_ok, va_recv hK hP (ci := 8) (q0 := 0) rfl wMg0, stW_pass hA hS hN hK hP hD nwM_ok⟩ rfl rfl hl.1 rfl (lv_room (Nat.le_of_ble_eq_true rfl)) dX8_grouped_98 ⟨Nat.le_of_ble_eq_true rfl, Nat.le_of_ble_eq_true rfl⟩) hS (fun r1 σ1 H locs hq hP hD hS => ?_)
      refine lv_if_eq (tgt := 131) hx hb dX8_grouped_101 (by decide) (fun hc => ?_) (fun hc => ?_)
      · have hq := hq.1 hc
        refine lv_lconst (v := (0 : Int64)) hx hb dX8_grouped_131 (by decide) ?_
        refine lv_ladd hx hb dX8_grouped_132 ?_
        refine lv_lstore (lv' := [(5, .long (v5 + (0 : Int64))), (0, .ref (ad 0)), (3, .int v3), (4, .int v4), (7, .long v7), (9, .long v9), (11, .int v11), (12, .int v12)]) hx hb dX8_grouped_133 hl (by decide) rfl (fun ls hl => ?_)
        refine lv_iinc (v := (v12 + (1 : Int32))) (lv' := [(12, .int (v12 + (1 : Int32))), (5, .long (v5 + (0 : Int64))), (0, .ref (ad 0)), (3, .int v3), (4, .int v4), (7, .long v7), (9, .long v9), (11, .int v11)]) hx hb dX8_grouped_135 hl (k := 7) rfl (by rfl) (by decide) rfl (fun ls hl => ?_)
        refine lv_goto (tgt := 82) hx hb dX8_grouped_138 (by decide) ?_
        rw [hK82] at hq
        exact hq _ _ _ hP hD hS (lv_sub hl [2, 3, 4, 1, 5, 6, 7, 0] rfl)
      · have hq := hq.2 hc
        refine lv_aload_n hx hb dX8_grouped_104 rfl (lv_at hl 0 rfl) ?_
        refine va_get (D := D) (ci := 8) (v := .ref (ad 6)) (C := RX8) (T := TX8) (N := 32) hx hb hts hiX8 hown hK hP 0 wMg0 rfl 8 (by decide) (hts (.fieldLink RX8 30 "ArcGuesserModel" "groups" "[I") (List.mem_of_getElem? (i := 1) rfl)) (fun _ h9 => h9) rfl dX8_grouped_105 ?_
        refine lv_iload hx hb dX8_grouped_108 (lv_at hl 6 rfl) ?_
        refine va_iald hx hb hK hP 6 0 wMg6 rfl hq.1 dX8_grouped_110 ?_
        have hq := hq.2
        refine lv_iload_n hx hb dX8_grouped_111 rfl (lv_at hl 1 rfl) ?_
        refine lv_icmp_ne (tgt := 131) hx hb dX8_grouped_112 (by decide) (fun hc => ?_) (fun hc => ?_)
        · have hq := hq.1 hc
          refine lv_lconst (v := (0 : Int64)) hx hb dX8_grouped_131 (by decide) ?_
          refine lv_ladd hx hb dX8_grouped_132 ?_
          refine lv_lstore (lv' := [(5, .long (v5 + (0 : Int64))), (0, .ref (ad 0)), (3, .int v3), (4, .int v4), (7, .long v7), (9, .long v9), (11, .int v11), (12, .int v12)]) hx hb dX8_grouped_133 hl (by decide) rfl (fun ls hl => ?_)
          refine lv_iinc (v := (v12 + (1 : Int32))) (lv' := [(12, .int (v12 + (1 : Int32))), (5, .long (v5 + (0 : Int64))), (0, .ref (ad 0)), (3, .int v3), (4, .int v4), (7, .long v7), (9, .long v9), (11, .int v11)]) hx hb dX8_grouped_135 hl (k := 7) rfl (by rfl) (by decide) rfl (fun ls hl => ?_)
          refine lv_goto (tgt := 82) hx hb dX8_grouped_138 (by decide) ?_
          rw [hK82] at hq
          exact hq _ _ _ hP hD hS (lv_sub hl [2, 3, 4, 1, 5, 6, 7, 0] rfl)
        · have hq := hq.2 hc
          refine lv_aload_n hx hb dX8_grouped_115 rfl (lv_at hl 0 rfl) ?_
          refine va_get (D := D) (ci := 8) (v := .ref (ad 6)) (C := RX8) (T := TX8) (N := 32) hx hb hts hiX8 hown hK hP 0 wMg0 rfl 8 (by decide) (hts (.fieldLink RX8 30 "ArcGuesserModel" "groups" "[I") (List.mem_of_getElem? (i := 1) rfl)) (fun _ h9 => h9) rfl dX8_grouped_116 ?_
          refine lv_iload hx hb dX8_grouped_119 (lv_at hl 7 rfl) ?_
          refine va_iald hx hb hK hP 6 0 wMg6 rfl hq.1 dX8_grouped_121 ?_
          have hq := hq.2
          refine lv_iload hx hb dX8_grouped_122 (lv_at hl 2 rfl) ?_
          refine lv_icmp_ne (tgt := 131) hx hb dX8_grouped_124 (by decide) (fun hc => ?_) (fun hc => ?_)
          · have hq := hq.1 hc
            refine lv_lconst (v := (0 : Int64)) hx hb dX8_grouped_131 (by decide) ?_
            refine lv_ladd hx hb dX8_grouped_132 ?_
            refine lv_lstore (lv' := [(5, .long (v5 + (0 : Int64))), (0, .ref (ad 0)), (3, .int v3), (4, .int v4), (7, .long v7), (9, .long v9), (11, .int v11), (12, .int v12)]) hx hb dX8_grouped_133 hl (by decide) rfl (fun ls hl => ?_)
            refine lv_iinc (v := (v12 + (1 : Int32))) (lv' := [(12, .int (v12 + (1 : Int32))), (5, .long (v5 + (0 : Int64))), (0, .ref (ad 0)), (3, .int v3), (4, .int v4), (7, .long v7), (9, .long v9), (11, .int v11)]) hx hb dX8_grouped_135 hl (k := 7) rfl (by rfl) (by decide) rfl (fun ls hl => ?_)
            refine lv_goto (tgt := 82) hx hb dX8_grouped_138 (by decide) ?_
            rw [hK82] at hq
            exact hq _ _ _ hP hD hS (lv_sub hl [2, 3, 4, 1, 5, 6, 7, 0] rfl)
          · have hq := hq.2 hc
            refine lv_lconst (v := (1 : Int64)) hx hb dX8_grouped_127 (by decide) ?_
            refine lv_goto (tgt := 132) hx hb dX8_grouped_128 (by decide) ?_
            refine lv_ladd hx hb dX8_grouped_132 ?_
            refine lv_lstore (lv' := [(5, .long (v5 + (1 : Int64))), (0, .ref (ad 0)), (3, .int v3), (4, .int v4), (7, .long v7), (9, .long v9), (11, .int v11), (12, .int v12)]) hx hb dX8_grouped_133 hl (by decide) rfl (fun ls hl => ?_)
            refine lv_iinc (v := (v12 + (1 : Int32))) (lv' := [(12, .int (v12 + (1 : Int32))), (5, .long (v5 + (1 : Int64))), (0, .ref (ad 0)), (3, .int v3), (4, .int v4), (7, .long v7), (9, .long v9), (11, .int v11)]) hx hb dX8_grouped_135 hl (k := 7) rfl (by rfl) (by decide) rfl (fun ls hl => ?_)
            refine lv_goto (tgt := 82) hx hb dX8_grouped_138 (by decide) ?_
            rw [hK82] at hq
            exact hq _ _ _ hP hD hS (lv_sub hl [2, 3, 4, 1, 5, 6, 7, 0] rfl)
  have hq := hwp K27 K82 hk27 hk82
  refine lv_aload_n hx hb dX8_grouped_0 rfl (lv_at hl 0 rfl) ?_
  refine va_get (D := D) (ci := 8) (v := .ref (ad 6)) (C := RX8) (T := TX8) (N := 32) hx hb hts hiX8 hown hK hP 0 wMg0 rfl 8 (by decide) (hts (.fieldLink RX8 30 "ArcGuesserModel" "groups" "[I") (List.mem_of_getElem? (i := 1) rfl)) (fun _ h9 => h9) rfl dX8_grouped_1 ?_
  refine lv_iload_n hx hb dX8_grouped_4 rfl (lv_at hl 1 rfl) ?_
  refine va_iald hx hb hK hP 6 0 wMg6 rfl hq.1 dX8_grouped_5 ?_
  have hq := hq.2
  refine lv_istore_n (lv' := [(3, .int (σ.1 6 (p1).toNatClampNeg)), (0, .ref (ad 0)), (1, .int p1), (2, .int p2)]) hx hb dX8_grouped_6 rfl hl (by decide) rfl (fun ls hl => ?_)
  refine lv_aload_n hx hb dX8_grouped_7 rfl (lv_at hl 1 rfl) ?_
  refine va_get (D := D) (ci := 8) (v := .ref (ad 6)) (C := RX8) (T := TX8) (N := 32) hx hb hts hiX8 hown hK hP 0 wMg0 rfl 8 (by decide) (hts (.fieldLink RX8 30 "ArcGuesserModel" "groups" "[I") (List.mem_of_getElem? (i := 1) rfl)) (fun _ h9 => h9) rfl dX8_grouped_8 ?_
  refine lv_iload_n hx hb dX8_grouped_11 rfl (lv_at hl 3 rfl) ?_
  refine va_iald hx hb hK hP 6 0 wMg6 rfl hq.1 dX8_grouped_12 ?_
  have hq := hq.2
  refine lv_istore (lv' := [(4, .int (σ.1 6 (p2).toNatClampNeg)), (3, .int (σ.1 6 (p1).toNatClampNeg)), (0, .ref (ad 0)), (1, .int p1), (2, .int p2)]) hx hb dX8_grouped_13 hl (by decide) rfl (fun ls hl => ?_)
  refine lv_lconst (v := (0 : Int64)) hx hb dX8_grouped_15 (by decide) ?_
  refine lv_lstore (lv' := [(5, .long (0 : Int64)), (4, .int (σ.1 6 (p2).toNatClampNeg)), (3, .int (σ.1 6 (p1).toNatClampNeg)), (0, .ref (ad 0)), (1, .int p1), (2, .int p2)]) hx hb dX8_grouped_16 hl (by decide) rfl (fun ls hl => ?_)
  refine lv_lconst (v := (0 : Int64)) hx hb dX8_grouped_18 (by decide) ?_
  refine lv_lstore (lv' := [(7, .long (0 : Int64)), (5, .long (0 : Int64)), (4, .int (σ.1 6 (p2).toNatClampNeg)), (3, .int (σ.1 6 (p1).toNatClampNeg)), (0, .ref (ad 0)), (1, .int p1), (2, .int p2)]) hx hb dX8_grouped_19 hl (by decide) rfl (fun ls hl => ?_)
  refine lv_lconst (v := (0 : Int64)) hx hb dX8_grouped_21 (by decide) ?_
  refine lv_lstore (lv' := [(9, .long (0 : Int64)), (7, .long (0 : Int64)), (5, .long (0 : Int64)), (4, .int (σ.1 6 (p2).toNatClampNeg)), (3, .int (σ.1 6 (p1).toNatClampNeg)), (0, .ref (ad 0)), (1, .int p1), (2, .int p2)]) hx hb dX8_grouped_22 hl (by decide) rfl (fun ls hl => ?_)
  refine lv_iconst (v := (0 : Int32)) hx hb dX8_grouped_24 (by decide) ?_
  refine lv_istore (lv' := [(11, .int (0 : Int32)), (9, .long (0 : Int64)), (7, .long (0 : Int64)), (5, .long (0 : Int64)), (4, .int (σ.1 6 (p2).toNatClampNeg)), (3, .int (σ.1 6 (p1).toNatClampNeg)), (0, .ref (ad 0)), (1, .int p1), (2, .int p2)]) hx hb dX8_grouped_25 hl (by decide) rfl (fun ls hl => ?_)
  rw [hK27] at hq
  exact hq _ _ _ hP hD hS (lv_sub hl [6, 5, 4, 3, 2, 1, 0] rfl)
/-! ArcGuesserModel.measure(III)V -/
def X8_measure_b12 (p1 : Int32) (p2 : Int32) (p3 : Int32) (K12 : Sto → Int64 → Int64 → Int64 → Int32 → Prop) (K254 : Sto → Int32 → Prop) (Post : Sto → Prop) (σ : Sto) (v4 : Int64) (v6 : Int64) (v8 : Int64) (v10 : Int32) : Prop :=
  (((σ.1 0 0) ≤ v10 → ((p3 = (0 : Int32) → (X8_make_wp σ v4 (1 : Int64) (fun σ1 => (Post σ1)))) ∧ (p3 = (1 : Int32) → (X8_make_wp σ v4 ((v6 + v8) - v4) (fun σ2 => (Post σ2)))) ∧ (p3 = (2 : Int32) → (X8_make_wp σ ((2 : Int64) * v4) (v6 + v8) (fun σ3 => (Post σ3)))) ∧ (p3 = (3 : Int32) → ((0 ≤ (lg_cmp v6 v8) → (X8_make_wp σ v4 v8 (fun σ4 => (Post σ4)))) ∧ (¬ 0 ≤ (lg_cmp v6 v8) → (X8_make_wp σ v4 v6 (fun σ5 => (Post σ5)))))) ∧ (p3 = (4 : Int32) → (((lg_cmp v6 v8) ≤ 0 → (X8_make_wp σ v4 v8 (fun σ6 => (Post σ6)))) ∧ (¬ (lg_cmp v6 v8) ≤ 0 → (X8_make_wp σ v4 v6 (fun σ7 => (Post σ7)))))) ∧ (p3 = (5 : Int32) → (X8_make_wp σ (0 : Int64) (1 : Int64) (fun σ8 => (K254 σ8 (0 : Int32))))) ∧ (p3 = (6 : Int32) → (X8_outs_wp σ p1 (fun r9 σ9 => (X8_ins_wp σ9 p2 (fun r10 σ10 => (X8_make_wp σ10 ((r9).toInt64 * (r10).toInt64) (1 : Int64) (fun σ11 => (Post σ11)))))))) ∧ (p3 = (7 : Int32) → (X8_walks_wp σ p1 p2 (fun r12 σ12 => (X8_make_wp σ12 (r12).toInt64 (1 : Int64) (fun σ13 => (Post σ13)))))) ∧ (p3 = (8 : Int32) → (X8_steps_wp σ p1 p2 (fun r14 σ14 => (X8_make_wp σ14 (1 : Int64) (r14).toInt64 (fun σ15 => (Post σ15)))))) ∧ (p3 = (9 : Int32) → (X8_wander_wp σ p1 p2 (fun σ16 => (Post σ16)))) ∧ (¬ p3 = (0 : Int32) → ¬ p3 = (1 : Int32) → ¬ p3 = (2 : Int32) → ¬ p3 = (3 : Int32) → ¬ p3 = (4 : Int32) → ¬ p3 = (5 : Int32) → ¬ p3 = (6 : Int32) → ¬ p3 = (7 : Int32) → ¬ p3 = (8 : Int32) → ¬ p3 = (9 : Int32) → (X8_grouped_wp σ p1 p2 (fun σ17 => (Post σ17)))))) ∧ (¬ (σ.1 0 0) ≤ v10 → (X8_leads_wp σ p1 v10 (fun r18 σ18 => (X8_isInB_wp σ18 v10 p2 (fun r19 σ19 => ((r18 = 0 → ((r18 = 0 → ((r19 = 0 → (K12 σ19 (v4 + (0 : Int64)) (v6 + (0 : Int64)) (v8 + (0 : Int64)) (v10 + (1 : Int32)))) ∧ (¬ r19 = 0 → (K12 σ19 (v4 + (0 : Int64)) (v6 + (0 : Int64)) (v8 + (1 : Int64)) (v10 + (1 : Int32)))))) ∧ (¬ r18 = 0 → ((r19 = 0 → (K12 σ19 (v4 + (0 : Int64)) (v6 + (1 : Int64)) (v8 + (0 : Int64)) (v10 + (1 : Int32)))) ∧ (¬ r19 = 0 → (K12 σ19 (v4 + (0 : Int64)) (v6 + (1 : Int64)) (v8 + (1 : Int64)) (v10 + (1 : Int32)))))))) ∧ (¬ r18 = 0 → ((r19 = 0 → ((r18 = 0 → ((r19 = 0 → (K12 σ19 (v4 + (0 : Int64)) (v6 + (0 : Int64)) (v8 + (0 : Int64)) (v10 + (1 : Int32)))) ∧ (¬ r19 = 0 → (K12 σ19 (v4 + (0 : Int64)) (v6 + (0 : Int64)) (v8 + (1 : Int64)) (v10 + (1 : Int32)))))) ∧ (¬ r18 = 0 → ((r19 = 0 → (K12 σ19 (v4 + (0 : Int64)) (v6 + (1 : Int64)) (v8 + (0 : Int64)) (v10 + (1 : Int32)))) ∧ (¬ r19 = 0 → (K12 σ19 (v4 + (0 : Int64)) (v6 + (1 : Int64)) (v8 + (1 : Int64)) (v10 + (1 : Int32)))))))) ∧ (¬ r19 = 0 → ((r18 = 0 → ((r19 = 0 → (K12 σ19 (v4 + (1 : Int64)) (v6 + (0 : Int64)) (v8 + (0 : Int64)) (v10 + (1 : Int32)))) ∧ (¬ r19 = 0 → (K12 σ19 (v4 + (1 : Int64)) (v6 + (0 : Int64)) (v8 + (1 : Int64)) (v10 + (1 : Int32)))))) ∧ (¬ r18 = 0 → ((r19 = 0 → (K12 σ19 (v4 + (1 : Int64)) (v6 + (1 : Int64)) (v8 + (0 : Int64)) (v10 + (1 : Int32)))) ∧ (¬ r19 = 0 → (K12 σ19 (v4 + (1 : Int64)) (v6 + (1 : Int64)) (v8 + (1 : Int64)) (v10 + (1 : Int32)))))))))))))))))
def X8_measure_b254 (p1 : Int32) (p2 : Int32) (p3 : Int32) (K12 : Sto → Int64 → Int64 → Int64 → Int32 → Prop) (K254 : Sto → Int32 → Prop) (Post : Sto → Prop) (σ : Sto) (v10 : Int32) : Prop :=
  (((σ.1 0 0) ≤ v10 → (Post σ)) ∧ (¬ (σ.1 0 0) ≤ v10 → (X8_leads_wp σ p1 v10 (fun r1 σ1 => ((r1 = 0 → (K254 σ1 (v10 + (1 : Int32)))) ∧ (¬ r1 = 0 → (X8_isInB_wp σ1 v10 p2 (fun r2 σ2 => ((r2 = 0 → (K254 σ2 (v10 + (1 : Int32)))) ∧ (¬ r2 = 0 → (X8_outs_wp σ2 v10 (fun r3 σ3 => ((r3 ≤ 0 → (K254 σ3 (v10 + (1 : Int32)))) ∧ (¬ r3 ≤ 0 → (X8_outs_wp σ3 v10 (fun r4 σ4 => (X8_plus_wp σ4 (1 : Int64) (r4).toInt64 (fun σ5 => (K254 σ5 (v10 + (1 : Int32)))))))))))))))))))))
def X8_measure_wp (σ : Sto) (p1 : Int32) (p2 : Int32) (p3 : Int32) (Post : Sto → Prop) : Prop := ∀ (K12 : Sto → Int64 → Int64 → Int64 → Int32 → Prop) (K254 : Sto → Int32 → Prop), (∀ (σ : Sto) (v4 : Int64) (v6 : Int64) (v8 : Int64) (v10 : Int32), X8_measure_b12 p1 p2 p3 K12 K254 Post σ v4 v6 v8 v10 → K12 σ v4 v6 v8 v10) → (∀ (σ : Sto) (v10 : Int32), X8_measure_b254 p1 p2 p3 K12 K254 Post σ v10 → K254 σ v10) → 
  (K12 σ (0 : Int64) (0 : Int64) (0 : Int64) (0 : Int32))
set_option maxHeartbeats 4000000 in
set_option maxRecDepth 100000 in
theorem mtX8_measure (l : Launch) (D : va_G) (ad : Nat → Nat) (cA : Nat → ClassId) (A : Nat → Prop) (σ : Sto) (p1 : Int32) (p2 : Int32) (p3 : Int32) (Post : Sto → Prop) (hwp : X8_measure_wp σ p1 p2 p3 Post) : Met l yX8_measure wsX8_measure ({ frames := 4, cells := 0, slots := 0, locals := 104 }) (va_Pc [.ref (ad 0), .int p1, .int p2, .int p3] (stW D (tyM cA) nwM (wM ad cA) A σ)) (va_Qv Post (enW D (wM ad cA) A) A) 0 0 A := by
  refine Met.ofW (cc := cX8_measure) (maxL := 13) (ret := none) (by decide) rfl ?_
  intro p e s m args below meth c s₁ B hml hv
  obtain ⟨rfl, hA, hN, hP, hK, hD⟩ := hv
  have hx := B.exec
  have hb := B.bytes
  have hr := B.returns
  have hts := atoms_spec (ws := wsX8_measure) B.pre
  have hown : s.vm.findClass RX8 = some m.cls := findClass_of_methodNamed B.named
  have hlocks := B.notSynchronized
  have hiX8 : ∀ w ∈ wsX80, w ∈ wsX8_measure := by decide +kernel
  have hS : va_S A s.heap s.heap [] := va_S.rf
  have hl := lv_entry ([.ref (ad 0), .int p1, .int p2, .int p3]) (n := 13) (Nat.le_of_ble_eq_true rfl)
  rw [lg_entry_eq]
  generalize (lg_sl ([.ref (ad 0), .int p1, .int p2, .int p3]) ++ List.replicate (13 - (lg_sl ([.ref (ad 0), .int p1, .int p2, .int p3])).length) Slot.unset).toArray = ls at hl ⊢
  have hl : lv_has ls 13 [(0, .ref (ad 0)), (1, .int p1), (2, .int p2), (3, .int p3)] := hl
  obtain ⟨K12, hK12⟩ : ∃ K : Sto → Int64 → Int64 → Int64 → Int32 → Prop, K = fun (σ : Sto) (v4 : Int64) (v6 : Int64) (v8 : Int64) (v10 : Int32) => ∀ (H : Heap) (locs : List Loc) (ls : Array Slot), va_P D vwCl ((wM ad cA) σ) H → va_D A ((wM ad cA) σ) → va_S A s.heap H locs → lv_has ls 13 [(0, .ref (ad 0)), (1, .int p1), (2, .int p2), (3, .int p3), (4, .long v4), (6, .long v6), (8, .long v8), (10, .int v10)] → W p l e (headSpec wsX8_measure ({ frames := 4, cells := 0, slots := 0, locals := 104 })).room s m ([.ref (ad 0), .int p1, .int p2, .int p3] : List Value).toArray below meth c H locs 0 0 (MQ below (va_Qv Post (enW D (wM ad cA) A) A) ([.ref (ad 0), .int p1, .int p2, .int p3] : List Value).toArray s 0 0 A) (F0 m 12 ls []) := ⟨_, rfl⟩
  obtain ⟨K254, hK254⟩ : ∃ K : Sto → Int32 → Prop, K = fun (σ : Sto) (v10 : Int32) => ∀ (H : Heap) (locs : List Loc) (ls : Array Slot), va_P D vwCl ((wM ad cA) σ) H → va_D A ((wM ad cA) σ) → va_S A s.heap H locs → lv_has ls 13 [(0, .ref (ad 0)), (1, .int p1), (2, .int p2), (10, .int v10)] → W p l e (headSpec wsX8_measure ({ frames := 4, cells := 0, slots := 0, locals := 104 })).room s m ([.ref (ad 0), .int p1, .int p2, .int p3] : List Value).toArray below meth c H locs 0 0 (MQ below (va_Qv Post (enW D (wM ad cA) A) A) ([.ref (ad 0), .int p1, .int p2, .int p3] : List Value).toArray s 0 0 A) (F0 m 254 ls []) := ⟨_, rfl⟩
  have hk12 : ∀ (σ : Sto) (v4 : Int64) (v6 : Int64) (v8 : Int64) (v10 : Int32), X8_measure_b12 p1 p2 p3 K12 K254 Post σ v4 v6 v8 v10 → K12 σ v4 v6 v8 v10 := by
    intro σ v4 v6 v8 v10 hq
    rw [hK12]
    intro H locs ls hP hD hS hl
    unfold X8_measure_b12 at hq
    refine lv_iload hx hb dX8_measure_12 (lv_at hl 7 rfl) ?_
    refine lv_aload_n hx hb dX8_measure_14 rfl (lv_at hl 0 rfl) ?_
    refine va_get (D := D) (ci := 8) (v := .int (σ.1 0 0)) (C := RX8) (T := TX8) (N := 32) hx hb hts hiX8 hown hK hP 0 wMg0 rfl 0 (by decide) (hts (.fieldLink RX8 7 "ArcGuesserModel" "n" "I") (List.mem_of_getElem? (i := 1) rfl)) (fun _ h9 => h9) rfl dX8_measure_15 ?_
    refine lv_icmp_ge (tgt := 95) hx hb dX8_measure_18 (by decide) (fun hc => ?_) (fun hc => ?_)
    · have hq := hq.1 hc
      refine lv_iload_n hx hb dX8_measure_95 rfl (lv_at hl 3 rfl) ?_
      by_cases hc0 : p3 = (0 : Int32)
      · have hq := hq.1 hc0
        refine lv_tableIn (off := 56) (tgt := 152) hx hb dX8_measure_96 (by rw [hc0]; decide) (by rw [hc0]; decide) (by rw [hc0]; rfl) (by decide) ?_
        refine lv_aload_n hx hb dX8_measure_152 rfl (lv_at hl 0 rfl) ?_
        refine lv_lload hx hb dX8_measure_153 (lv_at hl 4 rfl) ?_
        refine lv_lconst (v := (1 : Int64)) hx hb dX8_measure_155 (by decide) ?_
        refine w_callv (va_runV (As := [.long v4, .long (1 : Int64)]) (rest := []) ⟨hx, hb, hml, hown, hts⟩ (mtX8_make l D ad cA A σ v4 (1 : Int64) _ hq) (cwV 2 hts gX8_measure_X8_make rfl rfl rfl (by decide +kernel) ⟨Nat.le_of_ble_eq_true rfl, Nat.le_of_ble_eq_true rfl⟩) ⟨stW_blind nwM_ok, va_recv hK hP (ci := 8) (q0 := 0) rfl wMg0, stW_pass hA hS hN hK hP hD nwM_ok⟩ rfl rfl hl.1 rfl (lv_room (Nat.le_of_ble_eq_true rfl)) dX8_measure_156 ⟨Nat.le_of_ble_eq_true rfl, Nat.le_of_ble_eq_true rfl⟩) hS (fun σ1 H locs hq hP hD hS => ?_)
        refine lv_goto (tgt := 379) hx hb dX8_measure_159 (by decide) ?_
        exact W.vret hx hb hr (fun t ht hW => ⟨⟨σ1, rfl, hq, by rw [ht]; exact hP, hD⟩, hS.F ht⟩) hS.2.2 dX8_measure_379
      have hq := hq.2
      by_cases hc1 : p3 = (1 : Int32)
      · have hq := hq.1 hc1
        refine lv_tableIn (off := 66) (tgt := 162) hx hb dX8_measure_96 (by rw [hc1]; decide) (by rw [hc1]; decide) (by rw [hc1]; rfl) (by decide) ?_
        refine lv_aload_n hx hb dX8_measure_162 rfl (lv_at hl 0 rfl) ?_
        refine lv_lload hx hb dX8_measure_163 (lv_at hl 4 rfl) ?_
        refine lv_lload hx hb dX8_measure_165 (lv_at hl 5 rfl) ?_
        refine lv_lload hx hb dX8_measure_167 (lv_at hl 6 rfl) ?_
        refine lv_ladd hx hb dX8_measure_169 ?_
        refine lv_lload hx hb dX8_measure_170 (lv_at hl 4 rfl) ?_
        refine lv_lsub hx hb dX8_measure_172 ?_
        refine w_callv (va_runV (As := [.long v4, .long ((v6 + v8) - v4)]) (rest := []) ⟨hx, hb, hml, hown, hts⟩ (mtX8_make l D ad cA A σ v4 ((v6 + v8) - v4) _ hq) (cwV 2 hts gX8_measure_X8_make rfl rfl rfl (by decide +kernel) ⟨Nat.le_of_ble_eq_true rfl, Nat.le_of_ble_eq_true rfl⟩) ⟨stW_blind nwM_ok, va_recv hK hP (ci := 8) (q0 := 0) rfl wMg0, stW_pass hA hS hN hK hP hD nwM_ok⟩ rfl rfl hl.1 rfl (lv_room (Nat.le_of_ble_eq_true rfl)) dX8_measure_173 ⟨Nat.le_of_ble_eq_true rfl, Nat.le_of_ble_eq_true rfl⟩) hS (fun σ2 H locs hq hP hD hS => ?_)
        refine lv_goto (tgt := 379) hx hb dX8_measure_176 (by decide) ?_
        exact W.vret hx hb hr (fun t ht hW => ⟨⟨σ2, rfl, hq, by rw [ht]; exact hP, hD⟩, hS.F ht⟩) hS.2.2 dX8_measure_379
      have hq := hq.2
      by_cases hc2 : p3 = (2 : Int32)
      · have hq := hq.1 hc2
        refine lv_tableIn (off := 83) (tgt := 179) hx hb dX8_measure_96 (by rw [hc2]; decide) (by rw [hc2]; decide) (by rw [hc2]; rfl) (by decide) ?_
        refine lv_aload_n hx hb dX8_measure_179 rfl (lv_at hl 0 rfl) ?_
        refine lv_ldc2 (v := (2 : Int64)) hx hb hown (hts (.constantLong RX8 164 (2)) (List.mem_of_getElem? (i := 2) rfl)) dX8_measure_180 ?_
        refine lv_lload hx hb dX8_measure_183 (lv_at hl 4 rfl) ?_
        refine lv_lmul hx hb dX8_measure_185 ?_
        refine lv_lload hx hb dX8_measure_186 (lv_at hl 5 rfl) ?_
        refine lv_lload hx hb dX8_measure_188 (lv_at hl 6 rfl) ?_
        refine lv_ladd hx hb dX8_measure_190 ?_
        refine w_callv (va_runV (As := [.long ((2 : Int64) * v4), .long (v6 + v8)]) (rest := []) ⟨hx, hb, hml, hown, hts⟩ (mtX8_make l D ad cA A σ ((2 : Int64) * v4) (v6 + v8) _ hq) (cwV 2 hts gX8_measure_X8_make rfl rfl rfl (by decide +kernel) ⟨Nat.le_of_ble_eq_true rfl, Nat.le_of_ble_eq_true rfl⟩) ⟨stW_blind nwM_ok, va_recv hK hP (ci := 8) (q0 := 0) rfl wMg0, stW_pass hA hS hN hK hP hD nwM_ok⟩ rfl rfl hl.1 rfl (lv_room (Nat.le_of_ble_eq_true rfl)) dX8_measure_191 ⟨Nat.le_of_ble_eq_true rfl, Nat.le_of_ble_eq_true rfl⟩) hS (fun σ3 H locs hq hP hD hS => ?_)
        refine lv_goto (tgt := 379) hx hb dX8_measure_194 (by decide) ?_
        exact W.vret hx hb hr (fun t ht hW => ⟨⟨σ3, rfl, hq, by rw [ht]; exact hP, hD⟩, hS.F ht⟩) hS.2.2 dX8_measure_379
      have hq := hq.2
      by_cases hc3 : p3 = (3 : Int32)
      · have hq := hq.1 hc3
        refine lv_tableIn (off := 101) (tgt := 197) hx hb dX8_measure_96 (by rw [hc3]; decide) (by rw [hc3]; decide) (by rw [hc3]; rfl) (by decide) ?_
        refine lv_aload_n hx hb dX8_measure_197 rfl (lv_at hl 0 rfl) ?_
        refine lv_lload hx hb dX8_measure_198 (lv_at hl 4 rfl) ?_
        refine lv_lload hx hb dX8_measure_200 (lv_at hl 5 rfl) ?_
        refine lv_lload hx hb dX8_measure_202 (lv_at hl 6 rfl) ?_
        refine W.lcmp hx hb dX8_measure_204 ?_
        refine lv_if_ge (tgt := 213) hx hb dX8_measure_205 (by decide) (fun hc => ?_) (fun hc => ?_)
        · have hq := hq.1 hc
          refine lv_lload hx hb dX8_measure_213 (lv_at hl 6 rfl) ?_
          refine w_callv (va_runV (As := [.long v4, .long v8]) (rest := []) ⟨hx, hb, hml, hown, hts⟩ (mtX8_make l D ad cA A σ v4 v8 _ hq) (cwV 2 hts gX8_measure_X8_make rfl rfl rfl (by decide +kernel) ⟨Nat.le_of_ble_eq_true rfl, Nat.le_of_ble_eq_true rfl⟩) ⟨stW_blind nwM_ok, va_recv hK hP (ci := 8) (q0 := 0) rfl wMg0, stW_pass hA hS hN hK hP hD nwM_ok⟩ rfl rfl hl.1 rfl (lv_room (Nat.le_of_ble_eq_true rfl)) dX8_measure_215 ⟨Nat.le_of_ble_eq_true rfl, Nat.le_of_ble_eq_true rfl⟩) hS (fun σ4 H locs hq hP hD hS => ?_)
          refine lv_goto (tgt := 379) hx hb dX8_measure_218 (by decide) ?_
          exact W.vret hx hb hr (fun t ht hW => ⟨⟨σ4, rfl, hq, by rw [ht]; exact hP, hD⟩, hS.F ht⟩) hS.2.2 dX8_measure_379
        · have hq := hq.2 hc
          refine lv_lload hx hb dX8_measure_208 (lv_at hl 5 rfl) ?_
          refine lv_goto (tgt := 215) hx hb dX8_measure_210 (by decide) ?_
          refine w_callv (va_runV (As := [.long v4, .long v6]) (rest := []) ⟨hx, hb, hml, hown, hts⟩ (mtX8_make l D ad cA A σ v4 v6 _ hq) (cwV 2 hts gX8_measure_X8_make rfl rfl rfl (by decide +kernel) ⟨Nat.le_of_ble_eq_true rfl, Nat.le_of_ble_eq_true rfl⟩) ⟨stW_blind nwM_ok, va_recv hK hP (ci := 8) (q0 := 0) rfl wMg0, stW_pass hA hS hN hK hP hD nwM_ok⟩ rfl rfl hl.1 rfl (lv_room (Nat.le_of_ble_eq_true rfl)) dX8_measure_215 ⟨Nat.le_of_ble_eq_true rfl, Nat.le_of_ble_eq_true rfl⟩) hS (fun σ5 H locs hq hP hD hS => ?_)
          refine lv_goto (tgt := 379) hx hb dX8_measure_218 (by decide) ?_
          exact W.vret hx hb hr (fun t ht hW => ⟨⟨σ5, rfl, hq, by rw [ht]; exact hP, hD⟩, hS.F ht⟩) hS.2.2 dX8_measure_379
      have hq := hq.2
      by_cases hc4 : p3 = (4 : Int32)
      · have hq := hq.1 hc4
        refine lv_tableIn (off := 125) (tgt := 221) hx hb dX8_measure_96 (by rw [hc4]; decide) (by rw [hc4]; decide) (by rw [hc4]; rfl) (by decide) ?_
        refine lv_aload_n hx hb dX8_measure_221 rfl (lv_at hl 0 rfl) ?_
        refine lv_lload hx hb dX8_measure_222 (lv_at hl 4 rfl) ?_
        refine lv_lload hx hb dX8_measure_224 (lv_at hl 5 rfl) ?_
        refine lv_lload hx hb dX8_measure_226 (lv_at hl 6 rfl) ?_
        refine W.lcmp hx hb dX8_measure_228 ?_
        refine lv_if_le (tgt := 237) hx hb dX8_measure_229 (by decide) (fun hc => ?_) (fun hc => ?_)
        · have hq := hq.1 hc
          refine lv_lload hx hb dX8_measure_237 (lv_at hl 6 rfl) ?_
          refine w_callv (va_runV (As := [.long v4, .long v8]) (rest := []) ⟨hx, hb, hml, hown, hts⟩ (mtX8_make l D ad cA A σ v4 v8 _ hq) (cwV 2 hts gX8_measure_X8_make rfl rfl rfl (by decide +kernel) ⟨Nat.le_of_ble_eq_true rfl, Nat.le_of_ble_eq_true rfl⟩) ⟨stW_blind nwM_ok, va_recv hK hP (ci := 8) (q0 := 0) rfl wMg0, stW_pass hA hS hN hK hP hD nwM_ok⟩ rfl rfl hl.1 rfl (lv_room (Nat.le_of_ble_eq_true rfl)) dX8_measure_239 ⟨Nat.le_of_ble_eq_true rfl, Nat.le_of_ble_eq_true rfl⟩) hS (fun σ6 H locs hq hP hD hS => ?_)
          refine lv_goto (tgt := 379) hx hb dX8_measure_242 (by decide) ?_
          exact W.vret hx hb hr (fun t ht hW => ⟨⟨σ6, rfl, hq, by rw [ht]; exact hP, hD⟩, hS.F ht⟩) hS.2.2 dX8_measure_379
        · have hq := hq.2 hc
          refine lv_lload hx hb dX8_measure_232 (lv_at hl 5 rfl) ?_
          refine lv_goto (tgt := 239) hx hb dX8_measure_234 (by decide) ?_
          refine w_callv (va_runV (As := [.long v4, .long v6]) (rest := []) ⟨hx, hb, hml, hown, hts⟩ (mtX8_make l D ad cA A σ v4 v6 _ hq) (cwV 2 hts gX8_measure_X8_make rfl rfl rfl (by decide +kernel) ⟨Nat.le_of_ble_eq_true rfl, Nat.le_of_ble_eq_true rfl⟩) ⟨stW_blind nwM_ok, va_recv hK hP (ci := 8) (q0 := 0) rfl wMg0, stW_pass hA hS hN hK hP hD nwM_ok⟩ rfl rfl hl.1 rfl (lv_room (Nat.le_of_ble_eq_true rfl)) dX8_measure_239 ⟨Nat.le_of_ble_eq_true rfl, Nat.le_of_ble_eq_true rfl⟩) hS (fun σ7 H locs hq hP hD hS => ?_)
          refine lv_goto (tgt := 379) hx hb dX8_measure_242 (by decide) ?_
          exact W.vret hx hb hr (fun t ht hW => ⟨⟨σ7, rfl, hq, by rw [ht]; exact hP, hD⟩, hS.F ht⟩) hS.2.2 dX8_measure_379
      have hq := hq.2
      by_cases hc5 : p3 = (5 : Int32)
      · have hq := hq.1 hc5
        refine lv_tableIn (off := 149) (tgt := 245) hx hb dX8_measure_96 (by rw [hc5]; decide) (by rw [hc5]; decide) (by rw [hc5]; rfl) (by decide) ?_
        refine lv_aload_n hx hb dX8_measure_245 rfl (lv_at hl 0 rfl) ?_
        refine lv_lconst (v := (0 : Int64)) hx hb dX8_measure_246 (by decide) ?_
        refine lv_lconst (v := (1 : Int64)) hx hb dX8_measure_247 (by decide) ?_
        refine w_callv (va_runV (As := [.long (0 : Int64), .long (1 : Int64)]) (rest := []) ⟨hx, hb, hml, hown, hts⟩ (mtX8_make l D ad cA A σ (0 : Int64) (1 : Int64) _ hq) (cwV 2 hts gX8_measure_X8_make rfl rfl rfl (by decide +kernel) ⟨Nat.le_of_ble_eq_true rfl, Nat.le_of_ble_eq_true rfl⟩) ⟨stW_blind nwM_ok, va_recv hK hP (ci := 8) (q0 := 0) rfl wMg0, stW_pass hA hS hN hK hP hD nwM_ok⟩ rfl rfl hl.1 rfl (lv_room (Nat.le_of_ble_eq_true rfl)) dX8_measure_248 ⟨Nat.le_of_ble_eq_true rfl, Nat.le_of_ble_eq_true rfl⟩) hS (fun σ8 H locs hq hP hD hS => ?_)
        refine lv_iconst (v := (0 : Int32)) hx hb dX8_measure_251 (by decide) ?_
        refine lv_istore (lv' := [(10, .int (0 : Int32)), (0, .ref (ad 0)), (1, .int p1), (2, .int p2), (3, .int p3), (4, .long v4), (6, .long v6), (8, .long v8)]) hx hb dX8_measure_252 hl (by decide) rfl (fun ls hl => ?_)
        rw [hK254] at hq
        exact hq _ _ _ hP hD hS (lv_sub hl [1, 2, 3, 0] rfl)
      have hq := hq.2
      by_cases hc6 : p3 = (6 : Int32)
      · have hq := hq.1 hc6
        refine lv_tableIn (off := 217) (tgt := 313) hx hb dX8_measure_96 (by rw [hc6]; decide) (by rw [hc6]; decide) (by rw [hc6]; rfl) (by decide) ?_
        refine lv_aload_n hx hb dX8_measure_313 rfl (lv_at hl 0 rfl) ?_
        refine lv_aload_n hx hb dX8_measure_314 rfl (lv_at hl 0 rfl) ?_
        refine lv_iload_n hx hb dX8_measure_315 rfl (lv_at hl 1 rfl) ?_
        refine w_calli (va_runV (As := [.int p1]) (rest := [.ref (ad 0)]) ⟨hx, hb, hml, hown, hts⟩ (mtX8_outs l D ad cA A σ p1 _ hq) (cwV 1 hts gX8_measure_X8_outs rfl rfl rfl (by decide +kernel) ⟨Nat.le_of_ble_eq_true rfl, Nat.le_of_ble_eq_true rfl⟩) ⟨stW_blind nwM_ok, va_recv hK hP (ci := 8) (q0 := 0) rfl wMg0, stW_pass hA hS hN hK hP hD nwM_ok⟩ rfl rfl hl.1 rfl (lv_room (Nat.le_of_ble_eq_true rfl)) dX8_measure_316 ⟨Nat.le_of_ble_eq_true rfl, Nat.le_of_ble_eq_true rfl⟩) hS (fun r9 σ9 H locs hq hP hD hS => ?_)
        refine lv_i2l hx hb dX8_measure_319 rfl ?_
        refine lv_aload_n hx hb dX8_measure_320 rfl (lv_at hl 0 rfl) ?_
        refine lv_iload_n hx hb dX8_measure_321 rfl (lv_at hl 2 rfl) ?_
        refine w_calli (va_runV (As := [.int p2]) (rest := [.long (r9).toInt64, .ref (ad 0)]) ⟨hx, hb, hml, hown, hts⟩ (mtX8_ins l D ad cA A σ9 p2 _ hq) (cwV 1 hts gX8_measure_X8_ins rfl rfl rfl (by decide +kernel) ⟨Nat.le_of_ble_eq_true rfl, Nat.le_of_ble_eq_true rfl⟩) ⟨stW_blind nwM_ok, va_recv hK hP (ci := 8) (q0 := 0) rfl wMg0, stW_pass hA hS hN hK hP hD nwM_ok⟩ rfl rfl hl.1 rfl (lv_room (Nat.le_of_ble_eq_true rfl)) dX8_measure_322 ⟨Nat.le_of_ble_eq_true rfl, Nat.le_of_ble_eq_true rfl⟩) hS (fun r10 σ10 H locs hq hP hD hS => ?_)
        refine lv_i2l hx hb dX8_measure_325 rfl ?_
        refine lv_lmul hx hb dX8_measure_326 ?_
        refine lv_lconst (v := (1 : Int64)) hx hb dX8_measure_327 (by decide) ?_
        refine w_callv (va_runV (As := [.long ((r9).toInt64 * (r10).toInt64), .long (1 : Int64)]) (rest := []) ⟨hx, hb, hml, hown, hts⟩ (mtX8_make l D ad cA A σ10 ((r9).toInt64 * (r10).toInt64) (1 : Int64) _ hq) (cwV 2 hts gX8_measure_X8_make rfl rfl rfl (by decide +kernel) ⟨Nat.le_of_ble_eq_true rfl, Nat.le_of_ble_eq_true rfl⟩) ⟨stW_blind nwM_ok, va_recv hK hP (ci := 8) (q0 := 0) rfl wMg0, stW_pass hA hS hN hK hP hD nwM_ok⟩ rfl rfl hl.1 rfl (lv_room (Nat.le_of_ble_eq_true rfl)) dX8_measure_328 ⟨Nat.le_of_ble_eq_true rfl, Nat.le_of_ble_eq_true rfl⟩) hS (fun σ11 H locs hq hP hD hS => ?_)
        refine lv_goto (tgt := 379) hx hb dX8_measure_331 (by decide) ?_
        exact W.vret hx hb hr (fun t ht hW => ⟨⟨σ11, rfl, hq, by rw [ht]; exact hP, hD⟩, hS.F ht⟩) hS.2.2 dX8_measure_379
      have hq := hq.2
      by_cases hc7 : p3 = (7 : Int32)
      · have hq := hq.1 hc7
        refine lv_tableIn (off := 238) (tgt := 334) hx hb dX8_measure_96 (by rw [hc7]; decide) (by rw [hc7]; decide) (by rw [hc7]; rfl) (by decide) ?_
        refine lv_aload_n hx hb dX8_measure_334 rfl (lv_at hl 0 rfl) ?_
        refine lv_aload_n hx hb dX8_measure_335 rfl (lv_at hl 0 rfl) ?_
        refine lv_iload_n hx hb dX8_measure_336 rfl (lv_at hl 1 rfl) ?_
        refine lv_iload_n hx hb dX8_measure_337 rfl (lv_at hl 2 rfl) ?_
        refine w_calli (va_runV (As := [.int p1, .int p2]) (rest := [.ref (ad 0)]) ⟨hx, hb, hml, hown, hts⟩ (mtX8_walks l D ad cA A σ p1 p2 _ hq) (cwV 2 hts gX8_measure_X8_walks rfl rfl rfl (by decide +kernel) ⟨Nat.le_of_ble_eq_true rfl, Nat.le_of_ble_eq_true rfl⟩) ⟨stW_blind nwM_ok, va_recv hK hP (ci := 8) (q0 := 0) rfl wMg0, stW_pass hA hS hN hK hP hD nwM_ok⟩ rfl rfl hl.1 rfl (lv_room (Nat.le_of_ble_eq_true rfl)) dX8_measure_338 ⟨Nat.le_of_ble_eq_true rfl, Nat.le_of_ble_eq_true rfl⟩) hS (fun r12 σ12 H locs hq hP hD hS => ?_)
        refine lv_i2l hx hb dX8_measure_341 rfl ?_
        refine lv_lconst (v := (1 : Int64)) hx hb dX8_measure_342 (by decide) ?_
        refine w_callv (va_runV (As := [.long (r12).toInt64, .long (1 : Int64)]) (rest := []) ⟨hx, hb, hml, hown, hts⟩ (mtX8_make l D ad cA A σ12 (r12).toInt64 (1 : Int64) _ hq) (cwV 2 hts gX8_measure_X8_make rfl rfl rfl (by decide +kernel) ⟨Nat.le_of_ble_eq_true rfl, Nat.le_of_ble_eq_true rfl⟩) ⟨stW_blind nwM_ok, va_recv hK hP (ci := 8) (q0 := 0) rfl wMg0, stW_pass hA hS hN hK hP hD nwM_ok⟩ rfl rfl hl.1 rfl (lv_room (Nat.le_of_ble_eq_true rfl)) dX8_measure_343 ⟨Nat.le_of_ble_eq_true rfl, Nat.le_of_ble_eq_true rfl⟩) hS (fun σ13 H locs hq hP hD hS => ?_)
        refine lv_goto (tgt := 379) hx hb dX8_measure_346 (by decide) ?_
        exact W.vret hx hb hr (fun t ht hW => ⟨⟨σ13, rfl, hq, by rw [ht]; exact hP, hD⟩, hS.F ht⟩) hS.2.2 dX8_measure_379
      have hq := hq.2
      by_cases hc8 : p3 = (8 : Int32)
      · have hq := hq.1 hc8
        refine lv_tableIn (off := 253) (tgt := 349) hx hb dX8_measure_96 (by rw [hc8]; decide) (by rw [hc8]; decide) (by rw [hc8]; rfl) (by decide) ?_
        refine lv_aload_n hx hb dX8_measure_349 rfl (lv_at hl 0 rfl) ?_
        refine lv_lconst (v := (1 : Int64)) hx hb dX8_measure_350 (by decide) ?_
        refine lv_aload_n hx hb dX8_measure_351 rfl (lv_at hl 0 rfl) ?_
        refine lv_iload_n hx hb dX8_measure_352 rfl (lv_at hl 1 rfl) ?_
        refine lv_iload_n hx hb dX8_measure_353 rfl (lv_at hl 2 rfl) ?_
        refine w_calli (va_runV (As := [.int p1, .int p2]) (rest := [.long (1 : Int64), .ref (ad 0)]) ⟨hx, hb, hml, hown, hts⟩ (mtX8_steps l D ad cA A σ p1 p2 _ hq) (cwV 2 hts gX8_measure_X8_steps rfl rfl rfl (by decide +kernel) ⟨Nat.le_of_ble_eq_true rfl, Nat.le_of_ble_eq_true rfl⟩) ⟨stW_blind nwM_ok, va_recv hK hP (ci := 8) (q0 := 0) rfl wMg0, stW_pass hA hS hN hK hP hD nwM_ok⟩ rfl rfl hl.1 rfl (lv_room (Nat.le_of_ble_eq_true rfl)) dX8_measure_354 ⟨Nat.le_of_ble_eq_true rfl, Nat.le_of_ble_eq_true rfl⟩) hS (fun r14 σ14 H locs hq hP hD hS => ?_)
        refine lv_i2l hx hb dX8_measure_357 rfl ?_
        refine w_callv (va_runV (As := [.long (1 : Int64), .long (r14).toInt64]) (rest := []) ⟨hx, hb, hml, hown, hts⟩ (mtX8_make l D ad cA A σ14 (1 : Int64) (r14).toInt64 _ hq) (cwV 2 hts gX8_measure_X8_make rfl rfl rfl (by decide +kernel) ⟨Nat.le_of_ble_eq_true rfl, Nat.le_of_ble_eq_true rfl⟩) ⟨stW_blind nwM_ok, va_recv hK hP (ci := 8) (q0 := 0) rfl wMg0, stW_pass hA hS hN hK hP hD nwM_ok⟩ rfl rfl hl.1 rfl (lv_room (Nat.le_of_ble_eq_true rfl)) dX8_measure_358 ⟨Nat.le_of_ble_eq_true rfl, Nat.le_of_ble_eq_true rfl⟩) hS (fun σ15 H locs hq hP hD hS => ?_)
        refine lv_goto (tgt := 379) hx hb dX8_measure_361 (by decide) ?_
        exact W.vret hx hb hr (fun t ht hW => ⟨⟨σ15, rfl, hq, by rw [ht]; exact hP, hD⟩, hS.F ht⟩) hS.2.2 dX8_measure_379
      have hq := hq.2
      by_cases hc9 : p3 = (9 : Int32)
      · have hq := hq.1 hc9
        refine lv_tableIn (off := 268) (tgt := 364) hx hb dX8_measure_96 (by rw [hc9]; decide) (by rw [hc9]; decide) (by rw [hc9]; rfl) (by decide) ?_
        refine lv_aload_n hx hb dX8_measure_364 rfl (lv_at hl 0 rfl) ?_
        refine lv_iload_n hx hb dX8_measure_365 rfl (lv_at hl 1 rfl) ?_
        refine lv_iload_n hx hb dX8_measure_366 rfl (lv_at hl 2 rfl) ?_
        refine w_callv (va_runV (As := [.int p1, .int p2]) (rest := []) ⟨hx, hb, hml, hown, hts⟩ (mtX8_wander l D ad cA A σ p1 p2 _ hq) (cwV 2 hts gX8_measure_X8_wander rfl rfl rfl (by decide +kernel) ⟨Nat.le_of_ble_eq_true rfl, Nat.le_of_ble_eq_true rfl⟩) ⟨stW_blind nwM_ok, va_recv hK hP (ci := 8) (q0 := 0) rfl wMg0, stW_pass hA hS hN hK hP hD nwM_ok⟩ rfl rfl hl.1 rfl (lv_room (Nat.le_of_ble_eq_true rfl)) dX8_measure_367 ⟨Nat.le_of_ble_eq_true rfl, Nat.le_of_ble_eq_true rfl⟩) hS (fun σ16 H locs hq hP hD hS => ?_)
        refine lv_goto (tgt := 379) hx hb dX8_measure_370 (by decide) ?_
        exact W.vret hx hb hr (fun t ht hW => ⟨⟨σ16, rfl, hq, by rw [ht]; exact hP, hD⟩, hS.F ht⟩) hS.2.2 dX8_measure_379
      have hq := hq.2
      have hq := hq hc0 hc1 hc2 hc3 hc4 hc5 hc6 hc7 hc8 hc9
      refine lv_tableOut (tgt := 373) hx hb dX8_measure_96 (by have e0 := lv_neT hc0 (a := 0) (by decide); have e1 := lv_neT hc1 (a := 1) (by decide); have e2 := lv_neT hc2 (a := 2) (by decide); have e3 := lv_neT hc3 (a := 3) (by decide); have e4 := lv_neT hc4 (a := 4) (by decide); have e5 := lv_neT hc5 (a := 5) (by decide); have e6 := lv_neT hc6 (a := 6) (by decide); have e7 := lv_neT hc7 (a := 7) (by decide); have e8 := lv_neT hc8 (a := 8) (by decide); have e9 := lv_neT hc9 (a := 9) (by decide); omega) (by decide) ?_
      refine lv_aload_n hx hb dX8_measure_373 rfl (lv_at hl 0 rfl) ?_
      refine lv_iload_n hx hb dX8_measure_374 rfl (lv_at hl 1 rfl) ?_
      refine lv_iload_n hx hb dX8_measure_375 rfl (lv_at hl 2 rfl) ?_
      refine w_callv (va_runV (As := [.int p1, .int p2]) (rest := []) ⟨hx, hb, hml, hown, hts⟩ (mtX8_grouped l D ad cA A σ p1 p2 _ hq) (cwV 2 hts gX8_measure_X8_grouped rfl rfl rfl (by decide +kernel) ⟨Nat.le_of_ble_eq_true rfl, Nat.le_of_ble_eq_true rfl⟩) ⟨stW_blind nwM_ok, va_recv hK hP (ci := 8) (q0 := 0) rfl wMg0, stW_pass hA hS hN hK hP hD nwM_ok⟩ rfl rfl hl.1 rfl (lv_room (Nat.le_of_ble_eq_true rfl)) dX8_measure_376 ⟨Nat.le_of_ble_eq_true rfl, Nat.le_of_ble_eq_true rfl⟩) hS (fun σ17 H locs hq hP hD hS => ?_)
      exact W.vret hx hb hr (fun t ht hW => ⟨⟨σ17, rfl, hq, by rw [ht]; exact hP, hD⟩, hS.F ht⟩) hS.2.2 dX8_measure_379
    · have hq := hq.2 hc
      refine lv_aload_n hx hb dX8_measure_21 rfl (lv_at hl 0 rfl) ?_
      refine lv_iload_n hx hb dX8_measure_22 rfl (lv_at hl 1 rfl) ?_
      refine lv_iload hx hb dX8_measure_23 (lv_at hl 7 rfl) ?_
      refine w_calli (va_runV (As := [.int p1, .int v10]) (rest := []) ⟨hx, hb, hml, hown, hts⟩ (mtX8_leads l D ad cA A σ p1 v10 _ hq) (cwV 2 hts gX8_measure_X8_leads rfl rfl rfl (by decide +kernel) ⟨Nat.le_of_ble_eq_true rfl, Nat.le_of_ble_eq_true rfl⟩) ⟨stW_blind nwM_ok, va_recv hK hP (ci := 8) (q0 := 0) rfl wMg0, stW_pass hA hS hN hK hP hD nwM_ok⟩ rfl rfl hl.1 rfl (lv_room (Nat.le_of_ble_eq_true rfl)) dX8_measure_25 ⟨Nat.le_of_ble_eq_true rfl, Nat.le_of_ble_eq_true rfl⟩) hS (fun r18 σ18 H locs hq hP hD hS => ?_)
      refine lv_istore (lv' := [(11, .int r18), (0, .ref (ad 0)), (1, .int p1), (2, .int p2), (3, .int p3), (4, .long v4), (6, .long v6), (8, .long v8), (10, .int v10)]) hx hb dX8_measure_28 hl (by decide) rfl (fun ls hl => ?_)
      refine lv_aload_n hx hb dX8_measure_30 rfl (lv_at hl 1 rfl) ?_
      refine lv_iload hx hb dX8_measure_31 (lv_at hl 8 rfl) ?_
      refine lv_iload_n hx hb dX8_measure_33 rfl (lv_at hl 3 rfl) ?_
      refine w_calli (va_runV (As := [.int v10, .int p2]) (rest := []) ⟨hx, hb, hml, hown, hts⟩ (mtX8_isInB l D ad cA A σ18 v10 p2 _ hq) (cwV 2 hts gX8_measure_X8_isInB rfl rfl rfl (by decide +kernel) ⟨Nat.le_of_ble_eq_true rfl, Nat.le_of_ble_eq_true rfl⟩) ⟨stW_blind nwM_ok, va_recv hK hP (ci := 8) (q0 := 0) rfl wMg0, stW_pass hA hS hN hK hP hD nwM_ok⟩ rfl rfl hl.1 rfl (lv_room (Nat.le_of_ble_eq_true rfl)) dX8_measure_34 ⟨Nat.le_of_ble_eq_true rfl, Nat.le_of_ble_eq_true rfl⟩) hS (fun r19 σ19 H locs hq hP hD hS => ?_)
      refine lv_istore (lv' := [(12, .int r19), (11, .int r18), (0, .ref (ad 0)), (1, .int p1), (2, .int p2), (3, .int p3), (4, .long v4), (6, .long v6), (8, .long v8), (10, .int v10)]) hx hb dX8_measure_37 hl (by decide) rfl (fun ls hl => ?_)
      refine lv_lload hx hb dX8_measure_39 (lv_at hl 6 rfl) ?_
      refine lv_iload hx hb dX8_measure_41 (lv_at hl 1 rfl) ?_
      refine lv_if_eq (tgt := 55) hx hb dX8_measure_43 (by decide) (fun hc => ?_) (fun hc => ?_)
      · have hq := hq.1 hc
        refine lv_lconst (v := (0 : Int64)) hx hb dX8_measure_55 (by decide) ?_
        refine lv_ladd hx hb dX8_measure_56 ?_
        refine lv_lstore (lv' := [(4, .long (v4 + (0 : Int64))), (12, .int r19), (11, .int r18), (0, .ref (ad 0)), (1, .int p1), (2, .int p2), (3, .int p3), (6, .long v6), (8, .long v8), (10, .int v10)]) hx hb dX8_measure_57 hl (by decide) rfl (fun ls hl => ?_)
        refine lv_lload hx hb dX8_measure_59 (lv_at hl 7 rfl) ?_
        refine lv_iload hx hb dX8_measure_61 (lv_at hl 2 rfl) ?_
        refine lv_if_eq (tgt := 70) hx hb dX8_measure_63 (by decide) (fun hc => ?_) (fun hc => ?_)
        · have hq := hq.1 hc
          refine lv_lconst (v := (0 : Int64)) hx hb dX8_measure_70 (by decide) ?_
          refine lv_ladd hx hb dX8_measure_71 ?_
          refine lv_lstore (lv' := [(6, .long (v6 + (0 : Int64))), (4, .long (v4 + (0 : Int64))), (12, .int r19), (11, .int r18), (0, .ref (ad 0)), (1, .int p1), (2, .int p2), (3, .int p3), (8, .long v8), (10, .int v10)]) hx hb dX8_measure_72 hl (by decide) rfl (fun ls hl => ?_)
          refine lv_lload hx hb dX8_measure_74 (lv_at hl 8 rfl) ?_
          refine lv_iload hx hb dX8_measure_76 (lv_at hl 2 rfl) ?_
          refine lv_if_eq (tgt := 85) hx hb dX8_measure_78 (by decide) (fun hc => ?_) (fun hc => ?_)
          · have hq := hq.1 hc
            refine lv_lconst (v := (0 : Int64)) hx hb dX8_measure_85 (by decide) ?_
            refine lv_ladd hx hb dX8_measure_86 ?_
            refine lv_lstore (lv' := [(8, .long (v8 + (0 : Int64))), (6, .long (v6 + (0 : Int64))), (4, .long (v4 + (0 : Int64))), (12, .int r19), (11, .int r18), (0, .ref (ad 0)), (1, .int p1), (2, .int p2), (3, .int p3), (10, .int v10)]) hx hb dX8_measure_87 hl (by decide) rfl (fun ls hl => ?_)
            refine lv_iinc (v := (v10 + (1 : Int32))) (lv' := [(10, .int (v10 + (1 : Int32))), (8, .long (v8 + (0 : Int64))), (6, .long (v6 + (0 : Int64))), (4, .long (v4 + (0 : Int64))), (12, .int r19), (11, .int r18), (0, .ref (ad 0)), (1, .int p1), (2, .int p2), (3, .int p3)]) hx hb dX8_measure_89 hl (k := 9) rfl (by rfl) (by decide) rfl (fun ls hl => ?_)
            refine lv_goto (tgt := 12) hx hb dX8_measure_92 (by decide) ?_
            rw [hK12] at hq
            exact hq _ _ _ hP hD hS (lv_sub hl [6, 7, 8, 9, 3, 2, 1, 0] rfl)
          · have hq := hq.2 hc
            refine lv_lconst (v := (1 : Int64)) hx hb dX8_measure_81 (by decide) ?_
            refine lv_goto (tgt := 86) hx hb dX8_measure_82 (by decide) ?_
            refine lv_ladd hx hb dX8_measure_86 ?_
            refine lv_lstore (lv' := [(8, .long (v8 + (1 : Int64))), (6, .long (v6 + (0 : Int64))), (4, .long (v4 + (0 : Int64))), (12, .int r19), (11, .int r18), (0, .ref (ad 0)), (1, .int p1), (2, .int p2), (3, .int p3), (10, .int v10)]) hx hb dX8_measure_87 hl (by decide) rfl (fun ls hl => ?_)
            refine lv_iinc (v := (v10 + (1 : Int32))) (lv' := [(10, .int (v10 + (1 : Int32))), (8, .long (v8 + (1 : Int64))), (6, .long (v6 + (0 : Int64))), (4, .long (v4 + (0 : Int64))), (12, .int r19), (11, .int r18), (0, .ref (ad 0)), (1, .int p1), (2, .int p2), (3, .int p3)]) hx hb dX8_measure_89 hl (k := 9) rfl (by rfl) (by decide) rfl (fun ls hl => ?_)
            refine lv_goto (tgt := 12) hx hb dX8_measure_92 (by decide) ?_
            rw [hK12] at hq
            exact hq _ _ _ hP hD hS (lv_sub hl [6, 7, 8, 9, 3, 2, 1, 0] rfl)
        · have hq := hq.2 hc
          refine lv_lconst (v := (1 : Int64)) hx hb dX8_measure_66 (by decide) ?_
          refine lv_goto (tgt := 71) hx hb dX8_measure_67 (by decide) ?_
          refine lv_ladd hx hb dX8_measure_71 ?_
          refine lv_lstore (lv' := [(6, .long (v6 + (1 : Int64))), (4, .long (v4 + (0 : Int64))), (12, .int r19), (11, .int r18), (0, .ref (ad 0)), (1, .int p1), (2, .int p2), (3, .int p3), (8, .long v8), (10, .int v10)]) hx hb dX8_measure_72 hl (by decide) rfl (fun ls hl => ?_)
          refine lv_lload hx hb dX8_measure_74 (lv_at hl 8 rfl) ?_
          refine lv_iload hx hb dX8_measure_76 (lv_at hl 2 rfl) ?_
          refine lv_if_eq (tgt := 85) hx hb dX8_measure_78 (by decide) (fun hc => ?_) (fun hc => ?_)
          · have hq := hq.1 hc
            refine lv_lconst (v := (0 : Int64)) hx hb dX8_measure_85 (by decide) ?_
            refine lv_ladd hx hb dX8_measure_86 ?_
            refine lv_lstore (lv' := [(8, .long (v8 + (0 : Int64))), (6, .long (v6 + (1 : Int64))), (4, .long (v4 + (0 : Int64))), (12, .int r19), (11, .int r18), (0, .ref (ad 0)), (1, .int p1), (2, .int p2), (3, .int p3), (10, .int v10)]) hx hb dX8_measure_87 hl (by decide) rfl (fun ls hl => ?_)
            refine lv_iinc (v := (v10 + (1 : Int32))) (lv' := [(10, .int (v10 + (1 : Int32))), (8, .long (v8 + (0 : Int64))), (6, .long (v6 + (1 : Int64))), (4, .long (v4 + (0 : Int64))), (12, .int r19), (11, .int r18), (0, .ref (ad 0)), (1, .int p1), (2, .int p2), (3, .int p3)]) hx hb dX8_measure_89 hl (k := 9) rfl (by rfl) (by decide) rfl (fun ls hl => ?_)
            refine lv_goto (tgt := 12) hx hb dX8_measure_92 (by decide) ?_
            rw [hK12] at hq
            exact hq _ _ _ hP hD hS (lv_sub hl [6, 7, 8, 9, 3, 2, 1, 0] rfl)
          · have hq := hq.2 hc
            refine lv_lconst (v := (1 : Int64)) hx hb dX8_measure_81 (by decide) ?_
            refine lv_goto (tgt := 86) hx hb dX8_measure_82 (by decide) ?_
            refine lv_ladd hx hb dX8_measure_86 ?_
            refine lv_lstore (lv' := [(8, .long (v8 + (1 : Int64))), (6, .long (v6 + (1 : Int64))), (4, .long (v4 + (0 : Int64))), (12, .int r19), (11, .int r18), (0, .ref (ad 0)), (1, .int p1), (2, .int p2), (3, .int p3), (10, .int v10)]) hx hb dX8_measure_87 hl (by decide) rfl (fun ls hl => ?_)
            refine lv_iinc (v := (v10 + (1 : Int32))) (lv' := [(10, .int (v10 + (1 : Int32))), (8, .long (v8 + (1 : Int64))), (6, .long (v6 + (1 : Int64))), (4, .long (v4 + (0 : Int64))), (12, .int r19), (11, .int r18), (0, .ref (ad 0)), (1, .int p1), (2, .int p2), (3, .int p3)]) hx hb dX8_measure_89 hl (k := 9) rfl (by rfl) (by decide) rfl (fun ls hl => ?_)
            refine lv_goto (tgt := 12) hx hb dX8_measure_92 (by decide) ?_
            rw [hK12] at hq
            exact hq _ _ _ hP hD hS (lv_sub hl [6, 7, 8, 9, 3, 2, 1, 0] rfl)
      · have hq := hq.2 hc
        refine lv_iload hx hb dX8_measure_46 (lv_at hl 0 rfl) ?_
        refine lv_if_eq (tgt := 55) hx hb dX8_measure_48 (by decide) (fun hc => ?_) (fun hc => ?_)
        · have hq := hq.1 hc
          refine lv_lconst (v := (0 : Int64)) hx hb dX8_measure_55 (by decide) ?_
          refine lv_ladd hx hb dX8_measure_56 ?_
          refine lv_lstore (lv' := [(4, .long (v4 + (0 : Int64))), (12, .int r19), (11, .int r18), (0, .ref (ad 0)), (1, .int p1), (2, .int p2), (3, .int p3), (6, .long v6), (8, .long v8), (10, .int v10)]) hx hb dX8_measure_57 hl (by decide) rfl (fun ls hl => ?_)
          refine lv_lload hx hb dX8_measure_59 (lv_at hl 7 rfl) ?_
          refine lv_iload hx hb dX8_measure_61 (lv_at hl 2 rfl) ?_
          refine lv_if_eq (tgt := 70) hx hb dX8_measure_63 (by decide) (fun hc => ?_) (fun hc => ?_)
          · have hq := hq.1 hc
            refine lv_lconst (v := (0 : Int64)) hx hb dX8_measure_70 (by decide) ?_
            refine lv_ladd hx hb dX8_measure_71 ?_
            refine lv_lstore (lv' := [(6, .long (v6 + (0 : Int64))), (4, .long (v4 + (0 : Int64))), (12, .int r19), (11, .int r18), (0, .ref (ad 0)), (1, .int p1), (2, .int p2), (3, .int p3), (8, .long v8), (10, .int v10)]) hx hb dX8_measure_72 hl (by decide) rfl (fun ls hl => ?_)
            refine lv_lload hx hb dX8_measure_74 (lv_at hl 8 rfl) ?_
            refine lv_iload hx hb dX8_measure_76 (lv_at hl 2 rfl) ?_
            refine lv_if_eq (tgt := 85) hx hb dX8_measure_78 (by decide) (fun hc => ?_) (fun hc => ?_)
            · have hq := hq.1 hc
              refine lv_lconst (v := (0 : Int64)) hx hb dX8_measure_85 (by decide) ?_
              refine lv_ladd hx hb dX8_measure_86 ?_
              refine lv_lstore (lv' := [(8, .long (v8 + (0 : Int64))), (6, .long (v6 + (0 : Int64))), (4, .long (v4 + (0 : Int64))), (12, .int r19), (11, .int r18), (0, .ref (ad 0)), (1, .int p1), (2, .int p2), (3, .int p3), (10, .int v10)]) hx hb dX8_measure_87 hl (by decide) rfl (fun ls hl => ?_)
              refine lv_iinc (v := (v10 + (1 : Int32))) (lv' := [(10, .int (v10 + (1 : Int32))), (8, .long (v8 + (0 : Int64))), (6, .long (v6 + (0 : Int64))), (4, .long (v4 + (0 : Int64))), (12, .int r19), (11, .int r18), (0, .ref (ad 0)), (1, .int p1), (2, .int p2), (3, .int p3)]) hx hb dX8_measure_89 hl (k := 9) rfl (by rfl) (by decide) rfl (fun ls hl => ?_)
              refine lv_goto (tgt := 12) hx hb dX8_measure_92 (by decide) ?_
              rw [hK12] at hq
              exact hq _ _ _ hP hD hS (lv_sub hl [6, 7, 8, 9, 3, 2, 1, 0] rfl)
            · have hq := hq.2 hc
              refine lv_lconst (v := (1 : Int64)) hx hb dX8_measure_81 (by decide) ?_
              refine lv_goto (tgt := 86) hx hb dX8_measure_82 (by decide) ?_
              refine lv_ladd hx hb dX8_measure_86 ?_
              refine lv_lstore (lv' := [(8, .long (v8 + (1 : Int64))), (6, .long (v6 + (0 : Int64))), (4, .long (v4 + (0 : Int64))), (12, .int r19), (11, .int r18), (0, .ref (ad 0)), (1, .int p1), (2, .int p2), (3, .int p3), (10, .int v10)]) hx hb dX8_measure_87 hl (by decide) rfl (fun ls hl => ?_)
              refine lv_iinc (v := (v10 + (1 : Int32))) (lv' := [(10, .int (v10 + (1 : Int32))), (8, .long (v8 + (1 : Int64))), (6, .long (v6 + (0 : Int64))), (4, .long (v4 + (0 : Int64))), (12, .int r19), (11, .int r18), (0, .ref (ad 0)), (1, .int p1), (2, .int p2), (3, .int p3)]) hx hb dX8_measure_89 hl (k := 9) rfl (by rfl) (by decide) rfl (fun ls hl => ?_)
              refine lv_goto (tgt := 12) hx hb dX8_measure_92 (by decide) ?_
              rw [hK12] at hq
              exact hq _ _ _ hP hD hS (lv_sub hl [6, 7, 8, 9, 3, 2, 1, 0] rfl)
          · have hq := hq.2 hc
            refine lv_lconst (v := (1 : Int64)) hx hb dX8_measure_66 (by decide) ?_
            refine lv_goto (tgt := 71) hx hb dX8_measure_67 (by decide) ?_
            refine lv_ladd hx hb dX8_measure_71 ?_
            refine lv_lstore (lv' := [(6, .long (v6 + (1 : Int64))), (4, .long (v4 + (0 : Int64))), (12, .int r19), (11, .int r18), (0, .ref (ad 0)), (1, .int p1), (2, .int p2), (3, .int p3), (8, .long v8), (10, .int v10)]) hx hb dX8_measure_72 hl (by decide) rfl (fun ls hl => ?_)
            refine lv_lload hx hb dX8_measure_74 (lv_at hl 8 rfl) ?_
            refine lv_iload hx hb dX8_measure_76 (lv_at hl 2 rfl) ?_
            refine lv_if_eq (tgt := 85) hx hb dX8_measure_78 (by decide) (fun hc => ?_) (fun hc => ?_)
            · have hq := hq.1 hc
              refine lv_lconst (v := (0 : Int64)) hx hb dX8_measure_85 (by decide) ?_
              refine lv_ladd hx hb dX8_measure_86 ?_
              refine lv_lstore (lv' := [(8, .long (v8 + (0 : Int64))), (6, .long (v6 + (1 : Int64))), (4, .long (v4 + (0 : Int64))), (12, .int r19), (11, .int r18), (0, .ref (ad 0)), (1, .int p1), (2, .int p2), (3, .int p3), (10, .int v10)]) hx hb dX8_measure_87 hl (by decide) rfl (fun ls hl => ?_)
              refine lv_iinc (v := (v10 + (1 : Int32))) (lv' := [(10, .int (v10 + (1 : Int32))), (8, .long (v8 + (0 : Int64))), (6, .long (v6 + (1 : Int64))), (4, .long (v4 + (0 : Int64))), (12, .int r19), (11, .int r18), (0, .ref (ad 0)), (1, .int p1), (2, .int p2), (3, .int p3)]) hx hb dX8_measure_89 hl (k := 9) rfl (by rfl) (by decide) rfl (fun ls hl => ?_)
              refine lv_goto (tgt := 12) hx hb dX8_measure_92 (by decide) ?_
              rw [hK12] at hq
              exact hq _ _ _ hP hD hS (lv_sub hl [6, 7, 8, 9, 3, 2, 1, 0] rfl)
            · have hq := hq.2 hc
              refine lv_lconst (v := (1 : Int64)) hx hb dX8_measure_81 (by decide) ?_
              refine lv_goto (tgt := 86) hx hb dX8_measure_82 (by decide) ?_
              refine lv_ladd hx hb dX8_measure_86 ?_
              refine lv_lstore (lv' := [(8, .long (v8 + (1 : Int64))), (6, .long (v6 + (1 : Int64))), (4, .long (v4 + (0 : Int64))), (12, .int r19), (11, .int r18), (0, .ref (ad 0)), (1, .int p1), (2, .int p2), (3, .int p3), (10, .int v10)]) hx hb dX8_measure_87 hl (by decide) rfl (fun ls hl => ?_)
              refine lv_iinc (v := (v10 + (1 : Int32))) (lv' := [(10, .int (v10 + (1 : Int32))), (8, .long (v8 + (1 : Int64))), (6, .long (v6 + (1 : Int64))), (4, .long (v4 + (0 : Int64))), (12, .int r19), (11, .int r18), (0, .ref (ad 0)), (1, .int p1), (2, .int p2), (3, .int p3)]) hx hb dX8_measure_89 hl (k := 9) rfl (by rfl) (by decide) rfl (fun ls hl => ?_)
              refine lv_goto (tgt := 12) hx hb dX8_measure_92 (by decide) ?_
              rw [hK12] at hq
              exact hq _ _ _ hP hD hS (lv_sub hl [6, 7, 8, 9, 3, 2, 1, 0] rfl)
        · have hq := hq.2 hc
          refine lv_lconst (v := (1 : Int64)) hx hb dX8_measure_51 (by decide) ?_
          refine lv_goto (tgt := 56) hx hb dX8_measure_52 (by decide) ?_
          refine lv_ladd hx hb dX8_measure_56 ?_
          refine lv_lstore (lv' := [(4, .long (v4 + (1 : Int64))), (12, .int r19), (11, .int r18), (0, .ref (ad 0)), (1, .int p1), (2, .int p2), (3, .int p3), (6, .long v6), (8, .long v8), (10, .int v10)]) hx hb dX8_measure_57 hl (by decide) rfl (fun ls hl => ?_)
          refine lv_lload hx hb dX8_measure_59 (lv_at hl 7 rfl) ?_
          refine lv_iload hx hb dX8_measure_61 (lv_at hl 2 rfl) ?_
          refine lv_if_eq (tgt := 70) hx hb dX8_measure_63 (by decide) (fun hc => ?_) (fun hc => ?_)
          · have hq := hq.1 hc
            refine lv_lconst (v := (0 : Int64)) hx hb dX8_measure_70 (by decide) ?_
            refine lv_ladd hx hb dX8_measure_71 ?_
            refine lv_lstore (lv' := [(6, .long (v6 + (0 : Int64))), (4, .long (v4 + (1 : Int64))), (12, .int r19), (11, .int r18), (0, .ref (ad 0)), (1, .int p1), (2, .int p2), (3, .int p3), (8, .long v8), (10, .int v10)]) hx hb dX8_measure_72 hl (by decide) rfl (fun ls hl => ?_)
            refine lv_lload hx hb dX8_measure_74 (lv_at hl 8 rfl) ?_
            refine lv_iload hx hb dX8_measure_76 (lv_at hl 2 rfl) ?_
            refine lv_if_eq (tgt := 85) hx hb dX8_measure_78 (by decide) (fun hc => ?_) (fun hc => ?_)
            · have hq := hq.1 hc
              refine lv_lconst (v := (0 : Int64)) hx hb dX8_measure_85 (by decide) ?_
              refine lv_ladd hx hb dX8_measure_86 ?_
              refine lv_lstore (lv' := [(8, .long (v8 + (0 : Int64))), (6, .long (v6 + (0 : Int64))), (4, .long (v4 + (1 : Int64))), (12, .int r19), (11, .int r18), (0, .ref (ad 0)), (1, .int p1), (2, .int p2), (3, .int p3), (10, .int v10)]) hx hb dX8_measure_87 hl (by decide) rfl (fun ls hl => ?_)
              refine lv_iinc (v := (v10 + (1 : Int32))) (lv' := [(10, .int (v10 + (1 : Int32))), (8, .long (v8 + (0 : Int64))), (6, .long (v6 + (0 : Int64))), (4, .long (v4 + (1 : Int64))), (12, .int r19), (11, .int r18), (0, .ref (ad 0)), (1, .int p1), (2, .int p2), (3, .int p3)]) hx hb dX8_measure_89 hl (k := 9) rfl (by rfl) (by decide) rfl (fun ls hl => ?_)
              refine lv_goto (tgt := 12) hx hb dX8_measure_92 (by decide) ?_
              rw [hK12] at hq
              exact hq _ _ _ hP hD hS (lv_sub hl [6, 7, 8, 9, 3, 2, 1, 0] rfl)
            · have hq := hq.2 hc
              refine lv_lconst (v := (1 : Int64)) hx hb dX8_measure_81 (by decide) ?_
              refine lv_goto (tgt := 86) hx hb dX8_measure_82 (by decide) ?_
              refine lv_ladd hx hb dX8_measure_86 ?_
              refine lv_lstore (lv' := [(8, .long (v8 + (1 : Int64))), (6, .long (v6 + (0 : Int64))), (4, .long (v4 + (1 : Int64))), (12, .int r19), (11, .int r18), (0, .ref (ad 0)), (1, .int p1), (2, .int p2), (3, .int p3), (10, .int v10)]) hx hb dX8_measure_87 hl (by decide) rfl (fun ls hl => ?_)
              refine lv_iinc (v := (v10 + (1 : Int32))) (lv' := [(10, .int (v10 + (1 : Int32))), (8, .long (v8 + (1 : Int64))), (6, .long (v6 + (0 : Int64))), (4, .long (v4 + (1 : Int64))), (12, .int r19), (11, .int r18), (0, .ref (ad 0)), (1, .int p1), (2, .int p2), (3, .int p3)]) hx hb dX8_measure_89 hl (k := 9) rfl (by rfl) (by decide) rfl (fun ls hl => ?_)
              refine lv_goto (tgt := 12) hx hb dX8_measure_92 (by decide) ?_
              rw [hK12] at hq
              exact hq _ _ _ hP hD hS (lv_sub hl [6, 7, 8, 9, 3, 2, 1, 0] rfl)
          · have hq := hq.2 hc
            refine lv_lconst (v := (1 : Int64)) hx hb dX8_measure_66 (by decide) ?_
            refine lv_goto (tgt := 71) hx hb dX8_measure_67 (by decide) ?_
            refine lv_ladd hx hb dX8_measure_71 ?_
            refine lv_lstore (lv' := [(6, .long (v6 + (1 : Int64))), (4, .long (v4 + (1 : Int64))), (12, .int r19), (11, .int r18), (0, .ref (ad 0)), (1, .int p1), (2, .int p2), (3, .int p3), (8, .long v8), (10, .int v10)]) hx hb dX8_measure_72 hl (by decide) rfl (fun ls hl => ?_)
            refine lv_lload hx hb dX8_measure_74 (lv_at hl 8 rfl) ?_
            refine lv_iload hx hb dX8_measure_76 (lv_at hl 2 rfl) ?_
            refine lv_if_eq (tgt := 85) hx hb dX8_measure_78 (by decide) (fun hc => ?_) (fun hc => ?_)
            · have hq := hq.1 hc
              refine lv_lconst (v := (0 : Int64)) hx hb dX8_measure_85 (by decide) ?_
              refine lv_ladd hx hb dX8_measure_86 ?_
              refine lv_lstore (lv' := [(8, .long (v8 + (0 : Int64))), (6, .long (v6 + (1 : Int64))), (4, .long (v4 + (1 : Int64))), (12, .int r19), (11, .int r18), (0, .ref (ad 0)), (1, .int p1), (2, .int p2), (3, .int p3), (10, .int v10)]) hx hb dX8_measure_87 hl (by decide) rfl (fun ls hl => ?_)
              refine lv_iinc (v := (v10 + (1 : Int32))) (lv' := [(10, .int (v10 + (1 : Int32))), (8, .long (v8 + (0 : Int64))), (6, .long (v6 + (1 : Int64))), (4, .long (v4 + (1 : Int64))), (12, .int r19), (11, .int r18), (0, .ref (ad 0)), (1, .int p1), (2, .int p2), (3, .int p3)]) hx hb dX8_measure_89 hl (k := 9) rfl (by rfl) (by decide) rfl (fun ls hl => ?_)
              refine lv_goto (tgt := 12) hx hb dX8_measure_92 (by decide) ?_
              rw [hK12] at hq
              exact hq _ _ _ hP hD hS (lv_sub hl [6, 7, 8, 9, 3, 2, 1, 0] rfl)
            · have hq := hq.2 hc
              refine lv_lconst (v := (1 : Int64)) hx hb dX8_measure_81 (by decide) ?_
              refine lv_goto (tgt := 86) hx hb dX8_measure_82 (by decide) ?_
              refine lv_ladd hx hb dX8_measure_86 ?_
              refine lv_lstore (lv' := [(8, .long (v8 + (1 : Int64))), (6, .long (v6 + (1 : Int64))), (4, .long (v4 + (1 : Int64))), (12, .int r19), (11, .int r18), (0, .ref (ad 0)), (1, .int p1), (2, .int p2), (3, .int p3), (10, .int v10)]) hx hb dX8_measure_87 hl (by decide) rfl (fun ls hl => ?_)
              refine lv_iinc (v := (v10 + (1 : Int32))) (lv' := [(10, .int (v10 + (1 : Int32))), (8, .long (v8 + (1 : Int64))), (6, .long (v6 + (1 : Int64))), (4, .long (v4 + (1 : Int64))), (12, .int r19), (11, .int r18), (0, .ref (ad 0)), (1, .int p1), (2, .int p2), (3, .int p3)]) hx hb dX8_measure_89 hl (k := 9) rfl (by rfl) (by decide) rfl (fun ls hl => ?_)
              refine lv_goto (tgt := 12) hx hb dX8_measure_92 (by decide) ?_
              rw [hK12] at hq
              exact hq _ _ _ hP hD hS (lv_sub hl [6, 7, 8, 9, 3, 2, 1, 0] rfl)
  have hk254 : ∀ (σ : Sto) (v10 : Int32), X8_measure_b254 p1 p2 p3 K12 K254 Post σ v10 → K254 σ v10 := by
    intro σ v10 hq
    rw [hK254]
    intro H locs ls hP hD hS hl
    unfold X8_measure_b254 at hq
    refine lv_iload hx hb dX8_measure_254 (lv_at hl 3 rfl) ?_
    refine lv_aload_n hx hb dX8_measure_256 rfl (lv_at hl 0 rfl) ?_
    refine va_get (D := D) (ci := 8) (v := .int (σ.1 0 0)) (C := RX8) (T := TX8) (N := 32) hx hb hts hiX8 hown hK hP 0 wMg0 rfl 0 (by decide) (hts (.fieldLink RX8 7 "ArcGuesserModel" "n" "I") (List.mem_of_getElem? (i := 1) rfl)) (fun _ h9 => h9) rfl dX8_measure_257 ?_
    refine lv_icmp_ge (tgt := 310) hx hb dX8_measure_260 (by decide) (fun hc => ?_) (fun hc => ?_)
    · have hq := hq.1 hc
      refine lv_goto (tgt := 379) hx hb dX8_measure_310 (by decide) ?_
      exact W.vret hx hb hr (fun t ht hW => ⟨⟨σ, rfl, hq, by rw [ht]; exact hP, hD⟩, hS.F ht⟩) hS.2.2 dX8_measure_379
    · have hq := hq.2 hc
      refine lv_aload_n hx hb dX8_measure_263 rfl (lv_at hl 0 rfl) ?_
      refine lv_iload_n hx hb dX8_measure_264 rfl (lv_at hl 1 rfl) ?_
      refine lv_iload hx hb dX8_measure_265 (lv_at hl 3 rfl) ?_
      refine w_calli (va_runV (As := [.int p1, .int v10]) (rest := []) ⟨hx, hb, hml, hown, hts⟩ (mtX8_leads l D ad cA A σ p1 v10 _ hq) (cwV 2 hts gX8_measure_X8_leads rfl rfl rfl (by decide +kernel) ⟨Nat.le_of_ble_eq_true rfl, Nat.le_of_ble_eq_true rfl⟩) ⟨stW_blind nwM_ok, va_recv hK hP (ci := 8) (q0 := 0) rfl wMg0, stW_pass hA hS hN hK hP hD nwM_ok⟩ rfl rfl hl.1 rfl (lv_room (Nat.le_of_ble_eq_true rfl)) dX8_measure_267 ⟨Nat.le_of_ble_eq_true rfl, Nat.le_of_ble_eq_true rfl⟩) hS (fun r1 σ1 H locs hq hP hD hS => ?_)
      refine lv_if_eq (tgt := 304) hx hb dX8_measure_270 (by decide) (fun hc => ?_) (fun hc => ?_)
      · have hq := hq.1 hc
        refine lv_iinc (v := (v10 + (1 : Int32))) (lv' := [(10, .int (v10 + (1 : Int32))), (0, .ref (ad 0)), (1, .int p1), (2, .int p2)]) hx hb dX8_measure_304 hl (k := 3) rfl (by rfl) (by decide) rfl (fun ls hl => ?_)
        refine lv_goto (tgt := 254) hx hb dX8_measure_307 (by decide) ?_
        rw [hK254] at hq
        exact hq _ _ _ hP hD hS (lv_sub hl [1, 2, 3, 0] rfl)
      · have hq := hq.2 hc
        refine lv_aload_n hx hb dX8_measure_273 rfl (lv_at hl 0 rfl) ?_
        refine lv_iload hx hb dX8_measure_274 (lv_at hl 3 rfl) ?_
        refine lv_iload_n hx hb dX8_measure_276 rfl (lv_at hl 2 rfl) ?_
        refine w_calli (va_runV (As := [.int v10, .int p2]) (rest := []) ⟨hx, hb, hml, hown, hts⟩ (mtX8_isInB l D ad cA A σ1 v10 p2 _ hq) (cwV 2 hts gX8_measure_X8_isInB rfl rfl rfl (by decide +kernel) ⟨Nat.le_of_ble_eq_true rfl, Nat.le_of_ble_eq_true rfl⟩) ⟨stW_blind nwM_ok, va_recv hK hP (ci := 8) (q0 := 0) rfl wMg0, stW_pass hA hS hN hK hP hD nwM_ok⟩ rfl rfl hl.1 rfl (lv_room (Nat.le_of_ble_eq_true rfl)) dX8_measure_277 ⟨Nat.le_of_ble_eq_true rfl, Nat.le_of_ble_eq_true rfl⟩) hS (fun r2 σ2 H locs hq hP hD hS => ?_)
        refine lv_if_eq (tgt := 304) hx hb dX8_measure_280 (by decide) (fun hc => ?_) (fun hc => ?_)
        · have hq := hq.1 hc
          refine lv_iinc (v := (v10 + (1 : Int32))) (lv' := [(10, .int (v10 + (1 : Int32))), (0, .ref (ad 0)), (1, .int p1), (2, .int p2)]) hx hb dX8_measure_304 hl (k := 3) rfl (by rfl) (by decide) rfl (fun ls hl => ?_)
          refine lv_goto (tgt := 254) hx hb dX8_measure_307 (by decide) ?_
          rw [hK254] at hq
          exact hq _ _ _ hP hD hS (lv_sub hl [1, 2, 3, 0] rfl)
        · have hq := hq.2 hc
          refine lv_aload_n hx hb dX8_measure_283 rfl (lv_at hl 0 rfl) ?_
          refine lv_iload hx hb dX8_measure_284 (lv_at hl 3 rfl) ?_
          refine w_calli (va_runV (As := [.int v10]) (rest := []) ⟨hx, hb, hml, hown, hts⟩ (mtX8_outs l D ad cA A σ2 v10 _ hq) (cwV 1 hts gX8_measure_X8_outs rfl rfl rfl (by decide +kernel) ⟨Nat.le_of_ble_eq_true rfl, Nat.le_of_ble_eq_true rfl⟩) ⟨stW_blind nwM_ok, va_recv hK hP (ci := 8) (q0 := 0) rfl wMg0, stW_pass hA hS hN hK hP hD nwM_ok⟩ rfl rfl hl.1 rfl (lv_room (Nat.le_of_ble_eq_true rfl)) dX8_measure_286 ⟨Nat.le_of_ble_eq_true rfl, Nat.le_of_ble_eq_true rfl⟩) hS (fun r3 σ3 H locs hq hP hD hS => ?_)
          refine lv_if_le (tgt := 304) hx hb dX8_measure_289 (by decide) (fun hc => ?_) (fun hc => ?_)
          · have hq := hq.1 hc
            refine lv_iinc (v := (v10 + (1 : Int32))) (lv' := [(10, .int (v10 + (1 : Int32))), (0, .ref (ad 0)), (1, .int p1), (2, .int p2)]) hx hb dX8_measure_304 hl (k := 3) rfl (by rfl) (by decide) rfl (fun ls hl => ?_)
            refine lv_goto (tgt := 254) hx hb dX8_measure_307 (by decide) ?_
            rw [hK254] at hq
            exact hq _ _ _ hP hD hS (lv_sub hl [1, 2, 3, 0] rfl)
          · have hq := hq.2 hc
            refine lv_aload_n hx hb dX8_measure_292 rfl (lv_at hl 0 rfl) ?_
            refine lv_lconst (v := (1 : Int64)) hx hb dX8_measure_293 (by decide) ?_
            refine lv_aload_n hx hb dX8_measure_294 rfl (lv_at hl 0 rfl) ?_
            refine lv_iload hx hb dX8_measure_295 (lv_at hl 3 rfl) ?_
            refine w_calli (va_runV (As := [.int v10]) (rest := [.long (1 : Int64), .ref (ad 0)]) ⟨hx, hb, hml, hown, hts⟩ (mtX8_outs l D ad cA A σ3 v10 _ hq) (cwV 1 hts gX8_measure_X8_outs rfl rfl rfl (by decide +kernel) ⟨Nat.le_of_ble_eq_true rfl, Nat.le_of_ble_eq_true rfl⟩) ⟨stW_blind nwM_ok, va_recv hK hP (ci := 8) (q0 := 0) rfl wMg0, stW_pass hA hS hN hK hP hD nwM_ok⟩ rfl rfl hl.1 rfl (lv_room (Nat.le_of_ble_eq_true rfl)) dX8_measure_297 ⟨Nat.le_of_ble_eq_true rfl, Nat.le_of_ble_eq_true rfl⟩) hS (fun r4 σ4 H locs hq hP hD hS => ?_)
            refine lv_i2l hx hb dX8_measure_300 rfl ?_
            refine w_callv (va_runV (As := [.long (1 : Int64), .long (r4).toInt64]) (rest := []) ⟨hx, hb, hml, hown, hts⟩ (mtX8_plus l D ad cA A σ4 (1 : Int64) (r4).toInt64 _ hq) (cwV 2 hts gX8_measure_X8_plus rfl rfl rfl (by decide +kernel) ⟨Nat.le_of_ble_eq_true rfl, Nat.le_of_ble_eq_true rfl⟩) ⟨stW_blind nwM_ok, va_recv hK hP (ci := 8) (q0 := 0) rfl wMg0, stW_pass hA hS hN hK hP hD nwM_ok⟩ rfl rfl hl.1 rfl (lv_room (Nat.le_of_ble_eq_true rfl)) dX8_measure_301 ⟨Nat.le_of_ble_eq_true rfl, Nat.le_of_ble_eq_true rfl⟩) hS (fun σ5 H locs hq hP hD hS => ?_)
            refine lv_iinc (v := (v10 + (1 : Int32))) (lv' := [(10, .int (v10 + (1 : Int32))), (0, .ref (ad 0)), (1, .int p1), (2, .int p2)]) hx hb dX8_measure_304 hl (k := 3) rfl (by rfl) (by decide) rfl (fun ls hl => ?_)
            refine lv_goto (tgt := 254) hx hb dX8_measure_307 (by decide) ?_
            rw [hK254] at hq
            exact hq _ _ _ hP hD hS (lv_sub hl [1, 2, 3, 0] rfl)
  have hq := hwp K12 K254 hk12 hk254
  refine lv_lconst (v := (0 : Int64)) hx hb dX8_measure_0 (by decide) ?_
  refine lv_lstore (lv' := [(4, .long (0 : Int64)), (0, .ref (ad 0)), (1, .int p1), (2, .int p2), (3, .int p3)]) hx hb dX8_measure_1 hl (by decide) rfl (fun ls hl => ?_)
  refine lv_lconst (v := (0 : Int64)) hx hb dX8_measure_3 (by decide) ?_
  refine lv_lstore (lv' := [(6, .long (0 : Int64)), (4, .long (0 : Int64)), (0, .ref (ad 0)), (1, .int p1), (2, .int p2), (3, .int p3)]) hx hb dX8_measure_4 hl (by decide) rfl (fun ls hl => ?_)
  refine lv_lconst (v := (0 : Int64)) hx hb dX8_measure_6 (by decide) ?_
  refine lv_lstore (lv' := [(8, .long (0 : Int64)), (6, .long (0 : Int64)), (4, .long (0 : Int64)), (0, .ref (ad 0)), (1, .int p1), (2, .int p2), (3, .int p3)]) hx hb dX8_measure_7 hl (by decide) rfl (fun ls hl => ?_)
  refine lv_iconst (v := (0 : Int32)) hx hb dX8_measure_9 (by decide) ?_
  refine lv_istore (lv' := [(10, .int (0 : Int32)), (8, .long (0 : Int64)), (6, .long (0 : Int64)), (4, .long (0 : Int64)), (0, .ref (ad 0)), (1, .int p1), (2, .int p2), (3, .int p3)]) hx hb dX8_measure_10 hl (by decide) rfl (fun ls hl => ?_)
  rw [hK12] at hq
  exact hq _ _ _ hP hD hS (lv_sub hl [4, 5, 6, 7, 3, 2, 1, 0] rfl)
