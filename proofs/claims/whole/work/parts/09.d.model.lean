/-! ArcGuesserModel.score(III)I -/
def X8_score_wp (σ : Sto) (p1 : Int32) (p2 : Int32) (p3 : Int32) (Post : Int32 → Sto → Prop) : Prop :=
  (X8_isTold_wp σ p1 p2 (fun r1 σ1 => ((¬ r1 = 0 → ((p3 < 0 → (Post (-2 : Int32) σ1)) ∧ (¬ p3 < 0 → ((p3 ≤ (11 : Int32) → (X8_isTurned_wp σ1 p1 p2 (fun r2 σ2 => ((r2 = 0 → (X8_isTurned_wp σ2 p1 p2 (fun r3 σ3 => ((r3 = 0 → ((¬ p3 = (11 : Int32) → (X8_known_wp σ3 p1 p2 p3 (fun σ4 => (X8_show_wp σ4  (fun σ5 => (Post (1 : Int32) σ5)))))) ∧ (p3 = (11 : Int32) → (X8_mix_wp σ3 p1 p2 (fun σ6 => (X8_show_wp σ6  (fun σ7 => (Post (1 : Int32) σ7)))))))) ∧ (¬ r3 = 0 → ((¬ p3 = (11 : Int32) → (X8_known_wp σ3 p1 p1 p3 (fun σ8 => (X8_show_wp σ8  (fun σ9 => (Post (1 : Int32) σ9)))))) ∧ (p3 = (11 : Int32) → (X8_mix_wp σ3 p1 p1 (fun σ10 => (X8_show_wp σ10  (fun σ11 => (Post (1 : Int32) σ11)))))))))))) ∧ (¬ r2 = 0 → (X8_isTurned_wp σ2 p1 p2 (fun r12 σ12 => ((r12 = 0 → ((¬ p3 = (11 : Int32) → (X8_known_wp σ12 p2 p2 p3 (fun σ13 => (X8_show_wp σ13  (fun σ14 => (Post (1 : Int32) σ14)))))) ∧ (p3 = (11 : Int32) → (X8_mix_wp σ12 p2 p2 (fun σ15 => (X8_show_wp σ15  (fun σ16 => (Post (1 : Int32) σ16)))))))) ∧ (¬ r12 = 0 → ((¬ p3 = (11 : Int32) → (X8_known_wp σ12 p2 p1 p3 (fun σ17 => (X8_show_wp σ17  (fun σ18 => (Post (1 : Int32) σ18)))))) ∧ (p3 = (11 : Int32) → (X8_mix_wp σ12 p2 p1 (fun σ19 => (X8_show_wp σ19  (fun σ20 => (Post (1 : Int32) σ20)))))))))))))))) ∧ (¬ p3 ≤ (11 : Int32) → (Post (-2 : Int32) σ1)))))) ∧ (r1 = 0 → (Post (-1 : Int32) σ1)))))
set_option maxHeartbeats 4000000 in
set_option maxRecDepth 100000 in
theorem mtX8_score (l : Launch) (D : va_G) (ad : Nat → Nat) (cA : Nat → ClassId) (A : Nat → Prop) (σ : Sto) (p1 : Int32) (p2 : Int32) (p3 : Int32) (Post : Int32 → Sto → Prop) (hwp : X8_score_wp σ p1 p2 p3 Post) : Met l yX8_score wsX8_score ({ frames := 7, cells := 0, slots := 0, locals := 191 }) (va_Pc [.ref (ad 0), .int p1, .int p2, .int p3] (stW D (tyM cA) nwM (wM ad cA) A σ)) (va_Qi Post (enW D (wM ad cA) A) A) 0 0 A := by
  refine Met.ofW (cc := cX8_score) (maxL := 6) (ret := (some .int)) (by decide) rfl ?_
  intro p e s m args below meth c s₁ B hml hv
  obtain ⟨rfl, hA, hN, hP, hK, hD⟩ := hv
  have hx := B.exec
  have hb := B.bytes
  have hr := B.returns
  have hts := atoms_spec (ws := wsX8_score) B.pre
  have hown : s.vm.findClass RX8 = some m.cls := findClass_of_methodNamed B.named
  have hlocks := B.notSynchronized
  have hS : va_S A s.heap s.heap [] := va_S.rf
  have hl := lv_entry ([.ref (ad 0), .int p1, .int p2, .int p3]) (n := 6) (Nat.le_of_ble_eq_true rfl)
  rw [lg_entry_eq]
  generalize (lg_sl ([.ref (ad 0), .int p1, .int p2, .int p3]) ++ List.replicate (6 - (lg_sl ([.ref (ad 0), .int p1, .int p2, .int p3])).length) Slot.unset).toArray = ls at hl ⊢
  have hl : lv_has ls 6 [(0, .ref (ad 0)), (1, .int p1), (2, .int p2), (3, .int p3)] := hl
  have hq := hwp
  unfold X8_score_wp at hq
  refine lv_aload_n hx hb dX8_score_0 rfl (lv_at hl 0 rfl) ?_
  refine lv_iload_n hx hb dX8_score_1 rfl (lv_at hl 1 rfl) ?_
  refine lv_iload_n hx hb dX8_score_2 rfl (lv_at hl 2 rfl) ?_
  refine w_calli (va_runV (As := [.int p1, .int p2]) (rest := []) ⟨hx, hb, hml, hown, hts⟩ (mtX8_isTold l D ad cA A σ p1 p2 _ hq) (cwV 2 hts gX8_score_X8_isTold rfl rfl rfl (by decide +kernel) ⟨Nat.le_of_ble_eq_true rfl, Nat.le_of_ble_eq_true rfl⟩) ⟨stW_blind nwM_ok, va_recv hK hP (ci := 8) (q0 := 0) rfl wMg0, stW_pass hA hS hN hK hP hD nwM_ok⟩ rfl rfl hl.1 rfl (lv_room (Nat.le_of_ble_eq_true rfl)) dX8_score_3 ⟨Nat.le_of_ble_eq_true rfl, Nat.le_of_ble_eq_true rfl⟩) hS (fun r1 σ1 H locs hq hP hD hS => ?_)
  refine lv_if_ne (tgt := 11) hx hb dX8_score_6 (by decide) (fun hc => ?_) (fun hc => ?_)
  · have hq := hq.1 hc
    refine lv_iload_n hx hb dX8_score_11 rfl (lv_at hl 3 rfl) ?_
    refine lv_if_lt (tgt := 21) hx hb dX8_score_12 (by decide) (fun hc => ?_) (fun hc => ?_)
    · have hq := hq.1 hc
      refine lv_bipush (v := (-2 : Int32)) hx hb dX8_score_21 (by decide) ?_
      exact W.iret (v := (-2 : Int32)) hx hb hr (fun t ht hW => ⟨⟨(-2 : Int32), σ1, rfl, hq, by rw [ht]; exact hP, hD⟩, hS.F ht⟩) hS.2.2 dX8_score_23
    · have hq := hq.2 hc
      refine lv_iload_n hx hb dX8_score_15 rfl (lv_at hl 3 rfl) ?_
      refine lv_bipush (v := (11 : Int32)) hx hb dX8_score_16 (by decide) ?_
      refine lv_icmp_le (tgt := 24) hx hb dX8_score_18 (by decide) (fun hc => ?_) (fun hc => ?_)
      · have hq := hq.1 hc
        refine lv_aload_n hx hb dX8_score_24 rfl (lv_at hl 0 rfl) ?_
        refine lv_iload_n hx hb dX8_score_25 rfl (lv_at hl 1 rfl) ?_
        refine lv_iload_n hx hb dX8_score_26 rfl (lv_at hl 2 rfl) ?_
        refine w_calli (va_runV (As := [.int p1, .int p2]) (rest := []) ⟨hx, hb, hml, hown, hts⟩ (mtX8_isTurned l D ad cA A σ1 p1 p2 _ hq) (cwV 2 hts gX8_score_X8_isTurned rfl rfl rfl (by decide +kernel) ⟨Nat.le_of_ble_eq_true rfl, Nat.le_of_ble_eq_true rfl⟩) ⟨stW_blind nwM_ok, va_recv hK hP (ci := 8) (q0 := 0) rfl wMg0, stW_pass hA hS hN hK hP hD nwM_ok⟩ rfl rfl hl.1 rfl (lv_room (Nat.le_of_ble_eq_true rfl)) dX8_score_27 ⟨Nat.le_of_ble_eq_true rfl, Nat.le_of_ble_eq_true rfl⟩) hS (fun r2 σ2 H locs hq hP hD hS => ?_)
        refine lv_if_eq (tgt := 37) hx hb dX8_score_30 (by decide) (fun hc => ?_) (fun hc => ?_)
        · have hq := hq.1 hc
          refine lv_iload_n hx hb dX8_score_37 rfl (lv_at hl 1 rfl) ?_
          refine lv_istore (lv' := [(4, .int p1), (0, .ref (ad 0)), (1, .int p1), (2, .int p2), (3, .int p3)]) hx hb dX8_score_38 hl (by decide) rfl (fun ls hl => ?_)
          refine lv_aload_n hx hb dX8_score_40 rfl (lv_at hl 1 rfl) ?_
          refine lv_iload_n hx hb dX8_score_41 rfl (lv_at hl 2 rfl) ?_
          refine lv_iload_n hx hb dX8_score_42 rfl (lv_at hl 3 rfl) ?_
          refine w_calli (va_runV (As := [.int p1, .int p2]) (rest := []) ⟨hx, hb, hml, hown, hts⟩ (mtX8_isTurned l D ad cA A σ2 p1 p2 _ hq) (cwV 2 hts gX8_score_X8_isTurned rfl rfl rfl (by decide +kernel) ⟨Nat.le_of_ble_eq_true rfl, Nat.le_of_ble_eq_true rfl⟩) ⟨stW_blind nwM_ok, va_recv hK hP (ci := 8) (q0 := 0) rfl wMg0, stW_pass hA hS hN hK hP hD nwM_ok⟩ rfl rfl hl.1 rfl (lv_room (Nat.le_of_ble_eq_true rfl)) dX8_score_43 ⟨Nat.le_of_ble_eq_true rfl, Nat.le_of_ble_eq_true rfl⟩) hS (fun r3 σ3 H locs hq hP hD hS => ?_)
          refine lv_if_eq (tgt := 53) hx hb dX8_score_46 (by decide) (fun hc => ?_) (fun hc => ?_)
          · have hq := hq.1 hc
            refine lv_iload_n hx hb dX8_score_53 rfl (lv_at hl 3 rfl) ?_
            refine lv_istore (lv' := [(5, .int p2), (4, .int p1), (0, .ref (ad 0)), (1, .int p1), (2, .int p2), (3, .int p3)]) hx hb dX8_score_54 hl (by decide) rfl (fun ls hl => ?_)
            refine lv_iload_n hx hb dX8_score_56 rfl (lv_at hl 5 rfl) ?_
            refine lv_bipush (v := (11 : Int32)) hx hb dX8_score_57 (by decide) ?_
            refine lv_icmp_ne (tgt := 73) hx hb dX8_score_59 (by decide) (fun hc => ?_) (fun hc => ?_)
            · have hq := hq.1 hc
              refine lv_aload_n hx hb dX8_score_73 rfl (lv_at hl 2 rfl) ?_
              refine lv_iload hx hb dX8_score_74 (lv_at hl 1 rfl) ?_
              refine lv_iload hx hb dX8_score_76 (lv_at hl 0 rfl) ?_
              refine lv_iload_n hx hb dX8_score_78 rfl (lv_at hl 5 rfl) ?_
              refine w_callv (va_runV (As := [.int p1, .int p2, .int p3]) (rest := []) ⟨hx, hb, hml, hown, hts⟩ (mtX8_known l D ad cA A σ3 p1 p2 p3 _ hq) (cwV 3 hts gX8_score_X8_known rfl rfl rfl (by decide +kernel) ⟨Nat.le_of_ble_eq_true rfl, Nat.le_of_ble_eq_true rfl⟩) ⟨stW_blind nwM_ok, va_recv hK hP (ci := 8) (q0 := 0) rfl wMg0, stW_pass hA hS hN hK hP hD nwM_ok⟩ rfl rfl hl.1 rfl (lv_room (Nat.le_of_ble_eq_true rfl)) dX8_score_79 ⟨Nat.le_of_ble_eq_true rfl, Nat.le_of_ble_eq_true rfl⟩) hS (fun σ4 H locs hq hP hD hS => ?_)
              refine lv_aload_n hx hb dX8_score_82 rfl (lv_at hl 2 rfl) ?_
              refine w_callv (va_runV (As := []) (rest := []) ⟨hx, hb, hml, hown, hts⟩ (mtX8_show l D ad cA A σ4  _ hq) (cwV 0 hts gX8_score_X8_show rfl rfl rfl (by decide +kernel) ⟨Nat.le_of_ble_eq_true rfl, Nat.le_of_ble_eq_true rfl⟩) ⟨stW_blind nwM_ok, va_recv hK hP (ci := 8) (q0 := 0) rfl wMg0, stW_pass hA hS hN hK hP hD nwM_ok⟩ rfl rfl hl.1 rfl (lv_room (Nat.le_of_ble_eq_true rfl)) dX8_score_83 ⟨Nat.le_of_ble_eq_true rfl, Nat.le_of_ble_eq_true rfl⟩) hS (fun σ5 H locs hq hP hD hS => ?_)
              refine lv_iconst (v := (1 : Int32)) hx hb dX8_score_86 (by decide) ?_
              exact W.iret (v := (1 : Int32)) hx hb hr (fun t ht hW => ⟨⟨(1 : Int32), σ5, rfl, hq, by rw [ht]; exact hP, hD⟩, hS.F ht⟩) hS.2.2 dX8_score_87
            · have hq := hq.2 hc
              refine lv_aload_n hx hb dX8_score_62 rfl (lv_at hl 2 rfl) ?_
              refine lv_iload hx hb dX8_score_63 (lv_at hl 1 rfl) ?_
              refine lv_iload hx hb dX8_score_65 (lv_at hl 0 rfl) ?_
              refine w_callv (va_runV (As := [.int p1, .int p2]) (rest := []) ⟨hx, hb, hml, hown, hts⟩ (mtX8_mix l D ad cA A σ3 p1 p2 _ hq) (cwV 2 hts gX8_score_X8_mix rfl rfl rfl (by decide +kernel) ⟨Nat.le_of_ble_eq_true rfl, Nat.le_of_ble_eq_true rfl⟩) ⟨stW_blind nwM_ok, va_recv hK hP (ci := 8) (q0 := 0) rfl wMg0, stW_pass hA hS hN hK hP hD nwM_ok⟩ rfl rfl hl.1 rfl (lv_room (Nat.le_of_ble_eq_true rfl)) dX8_score_67 ⟨Nat.le_of_ble_eq_true rfl, Nat.le_of_ble_eq_true rfl⟩) hS (fun σ6 H locs hq hP hD hS => ?_)
              refine lv_goto (tgt := 82) hx hb dX8_score_70 (by decide) ?_
              refine lv_aload_n hx hb dX8_score_82 rfl (lv_at hl 2 rfl) ?_
              refine w_callv (va_runV (As := []) (rest := []) ⟨hx, hb, hml, hown, hts⟩ (mtX8_show l D ad cA A σ6  _ hq) (cwV 0 hts gX8_score_X8_show rfl rfl rfl (by decide +kernel) ⟨Nat.le_of_ble_eq_true rfl, Nat.le_of_ble_eq_true rfl⟩) ⟨stW_blind nwM_ok, va_recv hK hP (ci := 8) (q0 := 0) rfl wMg0, stW_pass hA hS hN hK hP hD nwM_ok⟩ rfl rfl hl.1 rfl (lv_room (Nat.le_of_ble_eq_true rfl)) dX8_score_83 ⟨Nat.le_of_ble_eq_true rfl, Nat.le_of_ble_eq_true rfl⟩) hS (fun σ7 H locs hq hP hD hS => ?_)
              refine lv_iconst (v := (1 : Int32)) hx hb dX8_score_86 (by decide) ?_
              exact W.iret (v := (1 : Int32)) hx hb hr (fun t ht hW => ⟨⟨(1 : Int32), σ7, rfl, hq, by rw [ht]; exact hP, hD⟩, hS.F ht⟩) hS.2.2 dX8_score_87
          · have hq := hq.2 hc
            refine lv_iload_n hx hb dX8_score_49 rfl (lv_at hl 2 rfl) ?_
            refine lv_goto (tgt := 54) hx hb dX8_score_50 (by decide) ?_
            refine lv_istore (lv' := [(5, .int p1), (4, .int p1), (0, .ref (ad 0)), (1, .int p1), (2, .int p2), (3, .int p3)]) hx hb dX8_score_54 hl (by decide) rfl (fun ls hl => ?_)
            refine lv_iload_n hx hb dX8_score_56 rfl (lv_at hl 5 rfl) ?_
            refine lv_bipush (v := (11 : Int32)) hx hb dX8_score_57 (by decide) ?_
            refine lv_icmp_ne (tgt := 73) hx hb dX8_score_59 (by decide) (fun hc => ?_) (fun hc => ?_)
            · have hq := hq.1 hc
              refine lv_aload_n hx hb dX8_score_73 rfl (lv_at hl 2 rfl) ?_
              refine lv_iload hx hb dX8_score_74 (lv_at hl 1 rfl) ?_
              refine lv_iload hx hb dX8_score_76 (lv_at hl 0 rfl) ?_
              refine lv_iload_n hx hb dX8_score_78 rfl (lv_at hl 5 rfl) ?_
              refine w_callv (va_runV (As := [.int p1, .int p1, .int p3]) (rest := []) ⟨hx, hb, hml, hown, hts⟩ (mtX8_known l D ad cA A σ3 p1 p1 p3 _ hq) (cwV 3 hts gX8_score_X8_known rfl rfl rfl (by decide +kernel) ⟨Nat.le_of_ble_eq_true rfl, Nat.le_of_ble_eq_true rfl⟩) ⟨stW_blind nwM_ok, va_recv hK hP (ci := 8) (q0 := 0) rfl wMg0, stW_pass hA hS hN hK hP hD nwM_ok⟩ rfl rfl hl.1 rfl (lv_room (Nat.le_of_ble_eq_true rfl)) dX8_score_79 ⟨Nat.le_of_ble_eq_true rfl, Nat.le_of_ble_eq_true rfl⟩) hS (fun σ8 H locs hq hP hD hS => ?_)
              refine lv_aload_n hx hb dX8_score_82 rfl (lv_at hl 2 rfl) ?_
              refine w_callv (va_runV (As := []) (rest := []) ⟨hx, hb, hml, hown, hts⟩ (mtX8_show l D ad cA A σ8  _ hq) (cwV 0 hts gX8_score_X8_show rfl rfl rfl (by decide +kernel) ⟨Nat.le_of_ble_eq_true rfl, Nat.le_of_ble_eq_true rfl⟩) ⟨stW_blind nwM_ok, va_recv hK hP (ci := 8) (q0 := 0) rfl wMg0, stW_pass hA hS hN hK hP hD nwM_ok⟩ rfl rfl hl.1 rfl (lv_room (Nat.le_of_ble_eq_true rfl)) dX8_score_83 ⟨Nat.le_of_ble_eq_true rfl, Nat.le_of_ble_eq_true rfl⟩) hS (fun σ9 H locs hq hP hD hS => ?_)
              refine lv_iconst (v := (1 : Int32)) hx hb dX8_score_86 (by decide) ?_
              exact W.iret (v := (1 : Int32)) hx hb hr (fun t ht hW => ⟨⟨(1 : Int32), σ9, rfl, hq, by rw [ht]; exact hP, hD⟩, hS.F ht⟩) hS.2.2 dX8_score_87
            · have hq := hq.2 hc
              refine lv_aload_n hx hb dX8_score_62 rfl (lv_at hl 2 rfl) ?_
              refine lv_iload hx hb dX8_score_63 (lv_at hl 1 rfl) ?_
              refine lv_iload hx hb dX8_score_65 (lv_at hl 0 rfl) ?_
              refine w_callv (va_runV (As := [.int p1, .int p1]) (rest := []) ⟨hx, hb, hml, hown, hts⟩ (mtX8_mix l D ad cA A σ3 p1 p1 _ hq) (cwV 2 hts gX8_score_X8_mix rfl rfl rfl (by decide +kernel) ⟨Nat.le_of_ble_eq_true rfl, Nat.le_of_ble_eq_true rfl⟩) ⟨stW_blind nwM_ok, va_recv hK hP (ci := 8) (q0 := 0) rfl wMg0, stW_pass hA hS hN hK hP hD nwM_ok⟩ rfl rfl hl.1 rfl (lv_room (Nat.le_of_ble_eq_true rfl)) dX8_score_67 ⟨Nat.le_of_ble_eq_true rfl, Nat.le_of_ble_eq_true rfl⟩) hS (fun σ10 H locs hq hP hD hS => ?_)
              refine lv_goto (tgt := 82) hx hb dX8_score_70 (by decide) ?_
              refine lv_aload_n hx hb dX8_score_82 rfl (lv_at hl 2 rfl) ?_
              refine w_callv (va_runV (As := []) (rest := []) ⟨hx, hb, hml, hown, hts⟩ (mtX8_show l D ad cA A σ10  _ hq) (cwV 0 hts gX8_score_X8_show rfl rfl rfl (by decide +kernel) ⟨Nat.le_of_ble_eq_true rfl, Nat.le_of_ble_eq_true rfl⟩) ⟨stW_blind nwM_ok, va_recv hK hP (ci := 8) (q0 := 0) rfl wMg0, stW_pass hA hS hN hK hP hD nwM_ok⟩ rfl rfl hl.1 rfl (lv_room (Nat.le_of_ble_eq_true rfl)) dX8_score_83 ⟨Nat.le_of_ble_eq_true rfl, Nat.le_of_ble_eq_true rfl⟩) hS (fun σ11 H locs hq hP hD hS => ?_)
              refine lv_iconst (v := (1 : Int32)) hx hb dX8_score_86 (by decide) ?_
              exact W.iret (v := (1 : Int32)) hx hb hr (fun t ht hW => ⟨⟨(1 : Int32), σ11, rfl, hq, by rw [ht]; exact hP, hD⟩, hS.F ht⟩) hS.2.2 dX8_score_87
        · have hq := hq.2 hc
          refine lv_iload_n hx hb dX8_score_33 rfl (lv_at hl 2 rfl) ?_
          refine lv_goto (tgt := 38) hx hb dX8_score_34 (by decide) ?_
          refine lv_istore (lv' := [(4, .int p2), (0, .ref (ad 0)), (1, .int p1), (2, .int p2), (3, .int p3)]) hx hb dX8_score_38 hl (by decide) rfl (fun ls hl => ?_)
          refine lv_aload_n hx hb dX8_score_40 rfl (lv_at hl 1 rfl) ?_
          refine lv_iload_n hx hb dX8_score_41 rfl (lv_at hl 2 rfl) ?_
          refine lv_iload_n hx hb dX8_score_42 rfl (lv_at hl 3 rfl) ?_
          refine w_calli (va_runV (As := [.int p1, .int p2]) (rest := []) ⟨hx, hb, hml, hown, hts⟩ (mtX8_isTurned l D ad cA A σ2 p1 p2 _ hq) (cwV 2 hts gX8_score_X8_isTurned rfl rfl rfl (by decide +kernel) ⟨Nat.le_of_ble_eq_true rfl, Nat.le_of_ble_eq_true rfl⟩) ⟨stW_blind nwM_ok, va_recv hK hP (ci := 8) (q0 := 0) rfl wMg0, stW_pass hA hS hN hK hP hD nwM_ok⟩ rfl rfl hl.1 rfl (lv_room (Nat.le_of_ble_eq_true rfl)) dX8_score_43 ⟨Nat.le_of_ble_eq_true rfl, Nat.le_of_ble_eq_true rfl⟩) hS (fun r12 σ12 H locs hq hP hD hS => ?_)
          refine lv_if_eq (tgt := 53) hx hb dX8_score_46 (by decide) (fun hc => ?_) (fun hc => ?_)
          · have hq := hq.1 hc
            refine lv_iload_n hx hb dX8_score_53 rfl (lv_at hl 3 rfl) ?_
            refine lv_istore (lv' := [(5, .int p2), (4, .int p2), (0, .ref (ad 0)), (1, .int p1), (2, .int p2), (3, .int p3)]) hx hb dX8_score_54 hl (by decide) rfl (fun ls hl => ?_)
            refine lv_iload_n hx hb dX8_score_56 rfl (lv_at hl 5 rfl) ?_
            refine lv_bipush (v := (11 : Int32)) hx hb dX8_score_57 (by decide) ?_
            refine lv_icmp_ne (tgt := 73) hx hb dX8_score_59 (by decide) (fun hc => ?_) (fun hc => ?_)
            · have hq := hq.1 hc
              refine lv_aload_n hx hb dX8_score_73 rfl (lv_at hl 2 rfl) ?_
              refine lv_iload hx hb dX8_score_74 (lv_at hl 1 rfl) ?_
              refine lv_iload hx hb dX8_score_76 (lv_at hl 0 rfl) ?_
              refine lv_iload_n hx hb dX8_score_78 rfl (lv_at hl 5 rfl) ?_
              refine w_callv (va_runV (As := [.int p2, .int p2, .int p3]) (rest := []) ⟨hx, hb, hml, hown, hts⟩ (mtX8_known l D ad cA A σ12 p2 p2 p3 _ hq) (cwV 3 hts gX8_score_X8_known rfl rfl rfl (by decide +kernel) ⟨Nat.le_of_ble_eq_true rfl, Nat.le_of_ble_eq_true rfl⟩) ⟨stW_blind nwM_ok, va_recv hK hP (ci := 8) (q0 := 0) rfl wMg0, stW_pass hA hS hN hK hP hD nwM_ok⟩ rfl rfl hl.1 rfl (lv_room (Nat.le_of_ble_eq_true rfl)) dX8_score_79 ⟨Nat.le_of_ble_eq_true rfl, Nat.le_of_ble_eq_true rfl⟩) hS (fun σ13 H locs hq hP hD hS => ?_)
              refine lv_aload_n hx hb dX8_score_82 rfl (lv_at hl 2 rfl) ?_
              refine w_callv (va_runV (As := []) (rest := []) ⟨hx, hb, hml, hown, hts⟩ (mtX8_show l D ad cA A σ13  _ hq) (cwV 0 hts gX8_score_X8_show rfl rfl rfl (by decide +kernel) ⟨Nat.le_of_ble_eq_true rfl, Nat.le_of_ble_eq_true rfl⟩) ⟨stW_blind nwM_ok, va_recv hK hP (ci := 8) (q0 := 0) rfl wMg0, stW_pass hA hS hN hK hP hD nwM_ok⟩ rfl rfl hl.1 rfl (lv_room (Nat.le_of_ble_eq_true rfl)) dX8_score_83 ⟨Nat.le_of_ble_eq_true rfl, Nat.le_of_ble_eq_true rfl⟩) hS (fun σ14 H locs hq hP hD hS => ?_)
              refine lv_iconst (v := (1 : Int32)) hx hb dX8_score_86 (by decide) ?_
              exact W.iret (v := (1 : Int32)) hx hb hr (fun t ht hW => ⟨⟨(1 : Int32), σ14, rfl, hq, by rw [ht]; exact hP, hD⟩, hS.F ht⟩) hS.2.2 dX8_score_87
            · have hq := hq.2 hc
              refine lv_aload_n hx hb dX8_score_62 rfl (lv_at hl 2 rfl) ?_
              refine lv_iload hx hb dX8_score_63 (lv_at hl 1 rfl) ?_
              refine lv_iload hx hb dX8_score_65 (lv_at hl 0 rfl) ?_
              refine w_callv (va_runV (As := [.int p2, .int p2]) (rest := []) ⟨hx, hb, hml, hown, hts⟩ (mtX8_mix l D ad cA A σ12 p2 p2 _ hq) (cwV 2 hts gX8_score_X8_mix rfl rfl rfl (by decide +kernel) ⟨Nat.le_of_ble_eq_true rfl, Nat.le_of_ble_eq_true rfl⟩) ⟨stW_blind nwM_ok, va_recv hK hP (ci := 8) (q0 := 0) rfl wMg0, stW_pass hA hS hN hK hP hD nwM_ok⟩ rfl rfl hl.1 rfl (lv_room (Nat.le_of_ble_eq_true rfl)) dX8_score_67 ⟨Nat.le_of_ble_eq_true rfl, Nat.le_of_ble_eq_true rfl⟩) hS (fun σ15 H locs hq hP hD hS => ?_)
              refine lv_goto (tgt := 82) hx hb dX8_score_70 (by decide) ?_
              refine lv_aload_n hx hb dX8_score_82 rfl (lv_at hl 2 rfl) ?_
              refine w_callv (va_runV (As := []) (rest := []) ⟨hx, hb, hml, hown, hts⟩ (mtX8_show l D ad cA A σ15  _ hq) (cwV 0 hts gX8_score_X8_show rfl rfl rfl (by decide +kernel) ⟨Nat.le_of_ble_eq_true rfl, Nat.le_of_ble_eq_true rfl⟩) ⟨stW_blind nwM_ok, va_recv hK hP (ci := 8) (q0 := 0) rfl wMg0, stW_pass hA hS hN hK hP hD nwM_ok⟩ rfl rfl hl.1 rfl (lv_room (Nat.le_of_ble_eq_true rfl)) dX8_score_83 ⟨Nat.le_of_ble_eq_true rfl, Nat.le_of_ble_eq_true rfl⟩) hS (fun σ16 H locs hq hP hD hS => ?_)
              refine lv_iconst (v := (1 : Int32)) hx hb dX8_score_86 (by decide) ?_
              exact W.iret (v := (1 : Int32)) hx hb hr (fun t ht hW => ⟨⟨(1 : Int32), σ16, rfl, hq, by rw [ht]; exact hP, hD⟩, hS.F ht⟩) hS.2.2 dX8_score_87
          · have hq := hq.2 hc
            refine lv_iload_n hx hb dX8_score_49 rfl (lv_at hl 2 rfl) ?_
            refine lv_goto (tgt := 54) hx hb dX8_score_50 (by decide) ?_
            refine lv_istore (lv' := [(5, .int p1), (4, .int p2), (0, .ref (ad 0)), (1, .int p1), (2, .int p2), (3, .int p3)]) hx hb dX8_score_54 hl (by decide) rfl (fun ls hl => ?_)
            refine lv_iload_n hx hb dX8_score_56 rfl (lv_at hl 5 rfl) ?_
            refine lv_bipush (v := (11 : Int32)) hx hb dX8_score_57 (by decide) ?_
            refine lv_icmp_ne (tgt := 73) hx hb dX8_score_59 (by decide) (fun hc => ?_) (fun hc => ?_)
            · have hq := hq.1 hc
              refine lv_aload_n hx hb dX8_score_73 rfl (lv_at hl 2 rfl) ?_
              refine lv_iload hx hb dX8_score_74 (lv_at hl 1 rfl) ?_
              refine lv_iload hx hb dX8_score_76 (lv_at hl 0 rfl) ?_
              refine lv_iload_n hx hb dX8_score_78 rfl (lv_at hl 5 rfl) ?_
              refine w_callv (va_runV (As := [.int p2, .int p1, .int p3]) (rest := []) ⟨hx, hb, hml, hown, hts⟩ (mtX8_known l D ad cA A σ12 p2 p1 p3 _ hq) (cwV 3 hts gX8_score_X8_known rfl rfl rfl (by decide +kernel) ⟨Nat.le_of_ble_eq_true rfl, Nat.le_of_ble_eq_true rfl⟩) ⟨stW_blind nwM_ok, va_recv hK hP (ci := 8) (q0 := 0) rfl wMg0, stW_pass hA hS hN hK hP hD nwM_ok⟩ rfl rfl hl.1 rfl (lv_room (Nat.le_of_ble_eq_true rfl)) dX8_score_79 ⟨Nat.le_of_ble_eq_true rfl, Nat.le_of_ble_eq_true rfl⟩) hS (fun σ17 H locs hq hP hD hS => ?_)
              refine lv_aload_n hx hb dX8_score_82 rfl (lv_at hl 2 rfl) ?_
              refine w_callv (va_runV (As := []) (rest := []) ⟨hx, hb, hml, hown, hts⟩ (mtX8_show l D ad cA A σ17  _ hq) (cwV 0 hts gX8_score_X8_show rfl rfl rfl (by decide +kernel) ⟨Nat.le_of_ble_eq_true rfl, Nat.le_of_ble_eq_true rfl⟩) ⟨stW_blind nwM_ok, va_recv hK hP (ci := 8) (q0 := 0) rfl wMg0, stW_pass hA hS hN hK hP hD nwM_ok⟩ rfl rfl hl.1 rfl (lv_room (Nat.le_of_ble_eq_true rfl)) dX8_score_83 ⟨Nat.le_of_ble_eq_true rfl, Nat.le_of_ble_eq_true rfl⟩) hS (fun σ18 H locs hq hP hD hS => ?_)
              refine lv_iconst (v := (1 : Int32)) hx hb dX8_score_86 (by decide) ?_
              exact W.iret (v := (1 : Int32)) hx hb hr (fun t ht hW => ⟨⟨(1 : Int32), σ18, rfl, hq, by rw [ht]; exact hP, hD⟩, hS.F ht⟩) hS.2.2 dX8_score_87
            · have hq := hq.2 hc
              refine lv_aload_n hx hb dX8_score_62 rfl (lv_at hl 2 rfl) ?_
              refine lv_iload hx hb dX8_score_63 (lv_at hl 1 rfl) ?_
              refine lv_iload hx hb dX8_score_65 (lv_at hl 0 rfl) ?_
              refine w_callv (va_runV (As := [.int p2, .int p1]) (rest := []) ⟨hx, hb, hml, hown, hts⟩ (mtX8_mix l D ad cA A σ12 p2 p1 _ hq) (cwV 2 hts gX8_score_X8_mix rfl rfl rfl (by decide +kernel) ⟨Nat.le_of_ble_eq_true rfl, Nat.le_of_ble_eq_true rfl⟩) ⟨stW_blind nwM_ok, va_recv hK hP (ci := 8) (q0 := 0) rfl wMg0, stW_pass hA hS hN hK hP hD nwM_ok⟩ rfl rfl hl.1 rfl (lv_room (Nat.le_of_ble_eq_true rfl)) dX8_score_67 ⟨Nat.le_of_ble_eq_true rfl, Nat.le_of_ble_eq_true rfl⟩) hS (fun σ19 H locs hq hP hD hS => ?_)
              refine lv_goto (tgt := 82) hx hb dX8_score_70 (by decide) ?_
              refine lv_aload_n hx hb dX8_score_82 rfl (lv_at hl 2 rfl) ?_
              refine w_callv (va_runV (As := []) (rest := []) ⟨hx, hb, hml, hown, hts⟩ (mtX8_show l D ad cA A σ19  _ hq) (cwV 0 hts gX8_score_X8_show rfl rfl rfl (by decide +kernel) ⟨Nat.le_of_ble_eq_true rfl, Nat.le_of_ble_eq_true rfl⟩) ⟨stW_blind nwM_ok, va_recv hK hP (ci := 8) (q0 := 0) rfl wMg0, stW_pass hA hS hN hK hP hD nwM_ok⟩ rfl rfl hl.1 rfl (lv_room (Nat.le_of_ble_eq_true rfl)) dX8_score_83 ⟨Nat.le_of_ble_eq_true rfl, Nat.le_of_ble_eq_true rfl⟩) hS (fun σ20 H locs hq hP hD hS => ?_)
              refine lv_iconst (v := (1 : Int32)) hx hb dX8_score_86 (by decide) ?_
              exact W.iret (v := (1 : Int32)) hx hb hr (fun t ht hW => ⟨⟨(1 : Int32), σ20, rfl, hq, by rw [ht]; exact hP, hD⟩, hS.F ht⟩) hS.2.2 dX8_score_87
      · have hq := hq.2 hc
        refine lv_bipush (v := (-2 : Int32)) hx hb dX8_score_21 (by decide) ?_
        exact W.iret (v := (-2 : Int32)) hx hb hr (fun t ht hW => ⟨⟨(-2 : Int32), σ1, rfl, hq, by rw [ht]; exact hP, hD⟩, hS.F ht⟩) hS.2.2 dX8_score_23
  · have hq := hq.2 hc
    refine lv_iconst (v := (-1 : Int32)) hx hb dX8_score_9 (by decide) ?_
    exact W.iret (v := (-1 : Int32)) hx hb hr (fun t ht hW => ⟨⟨(-1 : Int32), σ1, rfl, hq, by rw [ht]; exact hP, hD⟩, hS.F ht⟩) hS.2.2 dX8_score_10
/-! ArcGuesserModel.share()I -/
def X8_share_wp (σ : Sto)  (Post : Int32 → Sto → Prop) : Prop :=
  (X8_shares_wp σ  (fun r1 σ1 => ((¬ r1 = 0 → (X8_show_wp σ1  (fun σ2 => (Post (1 : Int32) σ2)))) ∧ (r1 = 0 → (Post (-3 : Int32) σ1)))))
set_option maxHeartbeats 4000000 in
set_option maxRecDepth 100000 in
theorem mtX8_share (l : Launch) (D : va_G) (ad : Nat → Nat) (cA : Nat → ClassId) (A : Nat → Prop) (σ : Sto)  (Post : Int32 → Sto → Prop) (hwp : X8_share_wp σ  Post) : Met l yX8_share wsX8_share ({ frames := 10, cells := 0, slots := 0, locals := 263 }) (va_Pc [.ref (ad 0)] (stW D (tyM cA) nwM (wM ad cA) A σ)) (va_Qi Post (enW D (wM ad cA) A) A) 0 0 A := by
  refine Met.ofW (cc := cX8_share) (maxL := 1) (ret := (some .int)) (by decide) rfl ?_
  intro p e s m args below meth c s₁ B hml hv
  obtain ⟨rfl, hA, hN, hP, hK, hD⟩ := hv
  have hx := B.exec
  have hb := B.bytes
  have hr := B.returns
  have hts := atoms_spec (ws := wsX8_share) B.pre
  have hown : s.vm.findClass RX8 = some m.cls := findClass_of_methodNamed B.named
  have hlocks := B.notSynchronized
  have hS : va_S A s.heap s.heap [] := va_S.rf
  have hl := lv_entry ([.ref (ad 0)]) (n := 1) (Nat.le_of_ble_eq_true rfl)
  rw [lg_entry_eq]
  generalize (lg_sl ([.ref (ad 0)]) ++ List.replicate (1 - (lg_sl ([.ref (ad 0)])).length) Slot.unset).toArray = ls at hl ⊢
  have hl : lv_has ls 1 [(0, .ref (ad 0))] := hl
  have hq := hwp
  unfold X8_share_wp at hq
  refine lv_aload_n hx hb dX8_share_0 rfl (lv_at hl 0 rfl) ?_
  refine w_calli (va_runV (As := []) (rest := []) ⟨hx, hb, hml, hown, hts⟩ (mtX8_shares l D ad cA A σ  _ hq) (cwV 0 hts gX8_share_X8_shares rfl rfl rfl (by decide +kernel) ⟨Nat.le_of_ble_eq_true rfl, Nat.le_of_ble_eq_true rfl⟩) ⟨stW_blind nwM_ok, va_recv hK hP (ci := 8) (q0 := 0) rfl wMg0, stW_pass hA hS hN hK hP hD nwM_ok⟩ rfl rfl hl.1 rfl (lv_room (Nat.le_of_ble_eq_true rfl)) dX8_share_1 ⟨Nat.le_of_ble_eq_true rfl, Nat.le_of_ble_eq_true rfl⟩) hS (fun r1 σ1 H locs hq hP hD hS => ?_)
  refine lv_if_ne (tgt := 10) hx hb dX8_share_4 (by decide) (fun hc => ?_) (fun hc => ?_)
  · have hq := hq.1 hc
    refine lv_aload_n hx hb dX8_share_10 rfl (lv_at hl 0 rfl) ?_
    refine w_callv (va_runV (As := []) (rest := []) ⟨hx, hb, hml, hown, hts⟩ (mtX8_show l D ad cA A σ1  _ hq) (cwV 0 hts gX8_share_X8_show rfl rfl rfl (by decide +kernel) ⟨Nat.le_of_ble_eq_true rfl, Nat.le_of_ble_eq_true rfl⟩) ⟨stW_blind nwM_ok, va_recv hK hP (ci := 8) (q0 := 0) rfl wMg0, stW_pass hA hS hN hK hP hD nwM_ok⟩ rfl rfl hl.1 rfl (lv_room (Nat.le_of_ble_eq_true rfl)) dX8_share_11 ⟨Nat.le_of_ble_eq_true rfl, Nat.le_of_ble_eq_true rfl⟩) hS (fun σ2 H locs hq hP hD hS => ?_)
    refine lv_iconst (v := (1 : Int32)) hx hb dX8_share_14 (by decide) ?_
    exact W.iret (v := (1 : Int32)) hx hb hr (fun t ht hW => ⟨⟨(1 : Int32), σ2, rfl, hq, by rw [ht]; exact hP, hD⟩, hS.F ht⟩) hS.2.2 dX8_share_15
  · have hq := hq.2 hc
    refine lv_bipush (v := (-3 : Int32)) hx hb dX8_share_7 (by decide) ?_
    exact W.iret (v := (-3 : Int32)) hx hb hr (fun t ht hW => ⟨⟨(-3 : Int32), σ1, rfl, hq, by rw [ht]; exact hP, hD⟩, hS.F ht⟩) hS.2.2 dX8_share_9
/-! ArcGuesserModel.since(I)I -/
def X8_since_b6 (p1 : Int32) (K6 : Sto → Int32 → Prop) (Post : Int32 → Sto → Prop) (σ : Sto) (v2 : Int32) : Prop :=
  (((σ.1 0 7) ≤ v2 → (X8_hiddenOnes_wp σ  (fun r1 σ1 => (Post r1 σ1)))) ∧ (¬ (σ.1 0 7) ≤ v2 → (vp_in v2 132 ∧ (((σ.1 4 (v2).toNatClampNeg) < p1 → (vp_in v2 132 ∧ (K6 (sI σ 5 (v2).toNatClampNeg (vp_nar .boolean (0 : Int32))) (v2 + (1 : Int32))))) ∧ (¬ (σ.1 4 (v2).toNatClampNeg) < p1 → (vp_in v2 132 ∧ (K6 (sI σ 5 (v2).toNatClampNeg (vp_nar .boolean (1 : Int32))) (v2 + (1 : Int32)))))))))
def X8_since_wp (σ : Sto) (p1 : Int32) (Post : Int32 → Sto → Prop) : Prop := ∀ (K6 : Sto → Int32 → Prop), (∀ (σ : Sto) (v2 : Int32), X8_since_b6 p1 K6 Post σ v2 → K6 σ v2) → 
  (X8_changed_wp σ  (fun σ1 => (K6 σ1 (0 : Int32))))
set_option maxHeartbeats 4000000 in
set_option maxRecDepth 100000 in
theorem mtX8_since (l : Launch) (D : va_G) (ad : Nat → Nat) (cA : Nat → ClassId) (A : Nat → Prop) (σ : Sto) (p1 : Int32) (Post : Int32 → Sto → Prop) (hwp : X8_since_wp σ p1 Post) : Met l yX8_since wsX8_since ({ frames := 1, cells := 0, slots := 0, locals := 22 }) (va_Pc [.ref (ad 0), .int p1] (stW D (tyM cA) nwM (wM ad cA) A σ)) (va_Qi Post (enW D (wM ad cA) A) A) 0 0 A := by
  refine Met.ofW (cc := cX8_since) (maxL := 3) (ret := (some .int)) (by decide) rfl ?_
  intro p e s m args below meth c s₁ B hml hv
  obtain ⟨rfl, hA, hN, hP, hK, hD⟩ := hv
  have hx := B.exec
  have hb := B.bytes
  have hr := B.returns
  have hts := atoms_spec (ws := wsX8_since) B.pre
  have hown : s.vm.findClass RX8 = some m.cls := findClass_of_methodNamed B.named
  have hlocks := B.notSynchronized
  have hiX8 : ∀ w ∈ wsX80, w ∈ wsX8_since := by decide +kernel
  have hS : va_S A s.heap s.heap [] := va_S.rf
  have hl := lv_entry ([.ref (ad 0), .int p1]) (n := 3) (Nat.le_of_ble_eq_true rfl)
  rw [lg_entry_eq]
  generalize (lg_sl ([.ref (ad 0), .int p1]) ++ List.replicate (3 - (lg_sl ([.ref (ad 0), .int p1])).length) Slot.unset).toArray = ls at hl ⊢
  have hl : lv_has ls 3 [(0, .ref (ad 0)), (1, .int p1)] := hl
  obtain ⟨K6, hK6⟩ : ∃ K : Sto → Int32 → Prop, K = fun (σ : Sto) (v2 : Int32) => ∀ (H : Heap) (locs : List Loc) (ls : Array Slot), va_P D vwCl ((wM ad cA) σ) H → va_D A ((wM ad cA) σ) → va_S A s.heap H locs → lv_has ls 3 [(0, .ref (ad 0)), (1, .int p1), (2, .int v2)] → W p l e (headSpec wsX8_since ({ frames := 1, cells := 0, slots := 0, locals := 22 })).room s m ([.ref (ad 0), .int p1] : List Value).toArray below meth c H locs 0 0 (MQ below (va_Qi Post (enW D (wM ad cA) A) A) ([.ref (ad 0), .int p1] : List Value).toArray s 0 0 A) (F0 m 6 ls []) := ⟨_, rfl⟩
  have hk6 : ∀ (σ : Sto) (v2 : Int32), X8_since_b6 p1 K6 Post σ v2 → K6 σ v2 := by
    intro σ v2 hq
    rw [hK6]
    intro H locs ls hP hD hS hl
    unfold X8_since_b6 at hq
    refine lv_iload_n hx hb dX8_since_6 rfl (lv_at hl 2 rfl) ?_
    refine lv_aload_n hx hb dX8_since_7 rfl (lv_at hl 0 rfl) ?_
    refine va_get (D := D) (ci := 8) (v := .int (σ.1 0 7)) (C := RX8) (T := TX8) (N := 32) hx hb hts hiX8 hown hK hP 0 wMg0 rfl 7 (by decide) (hts (.fieldLink RX8 92 "ArcGuesserModel" "arcs" "I") (List.mem_of_getElem? (i := 1) rfl)) (fun _ h9 => h9) rfl dX8_since_8 ?_
    refine lv_icmp_ge (tgt := 41) hx hb dX8_since_11 (by decide) (fun hc => ?_) (fun hc => ?_)
    · have hq := hq.1 hc
      refine lv_aload_n hx hb dX8_since_41 rfl (lv_at hl 0 rfl) ?_
      refine w_calli (va_runV (As := []) (rest := []) ⟨hx, hb, hml, hown, hts⟩ (mtX8_hiddenOnes l D ad cA A σ  _ hq) (cwV 0 hts gX8_since_X8_hiddenOnes rfl rfl rfl (by decide +kernel) ⟨Nat.le_of_ble_eq_true rfl, Nat.le_of_ble_eq_true rfl⟩) ⟨stW_blind nwM_ok, va_recv hK hP (ci := 8) (q0 := 0) rfl wMg0, stW_pass hA hS hN hK hP hD nwM_ok⟩ rfl rfl hl.1 rfl (lv_room (Nat.le_of_ble_eq_true rfl)) dX8_since_42 ⟨Nat.le_of_ble_eq_true rfl, Nat.le_of_ble_eq_true rfl⟩) hS (fun r1 σ1 H locs hq hP hD hS => ?_)
      exact W.iret (v := r1) hx hb hr (fun t ht hW => ⟨⟨r1, σ1, rfl, hq, by rw [ht]; exact hP, hD⟩, hS.F ht⟩) hS.2.2 dX8_since_45
    · have hq := hq.2 hc
      refine lv_aload_n hx hb dX8_since_14 rfl (lv_at hl 0 rfl) ?_
      refine va_get (D := D) (ci := 8) (v := .ref (ad 5)) (C := RX8) (T := TX8) (N := 32) hx hb hts hiX8 hown hK hP 0 wMg0 rfl 6 (by decide) (hts (.fieldLink RX8 26 "ArcGuesserModel" "hidden" "[Z") (List.mem_of_getElem? (i := 2) rfl)) (fun _ h9 => h9) rfl dX8_since_15 ?_
      refine lv_iload_n hx hb dX8_since_18 rfl (lv_at hl 2 rfl) ?_
      refine lv_aload_n hx hb dX8_since_19 rfl (lv_at hl 0 rfl) ?_
      refine va_get (D := D) (ci := 8) (v := .ref (ad 4)) (C := RX8) (T := TX8) (N := 32) hx hb hts hiX8 hown hK hP 0 wMg0 rfl 5 (by decide) (hts (.fieldLink RX8 23 "ArcGuesserModel" "times" "[I") (List.mem_of_getElem? (i := 3) rfl)) (fun _ h9 => h9) rfl dX8_since_20 ?_
      refine lv_iload_n hx hb dX8_since_23 rfl (lv_at hl 2 rfl) ?_
      refine va_iald hx hb hK hP 4 0 wMg4 rfl hq.1 dX8_since_24 ?_
      have hq := hq.2
      refine lv_iload_n hx hb dX8_since_25 rfl (lv_at hl 1 rfl) ?_
      refine lv_icmp_lt (tgt := 33) hx hb dX8_since_26 (by decide) (fun hc => ?_) (fun hc => ?_)
      · have hq := hq.1 hc
        refine lv_iconst (v := (0 : Int32)) hx hb dX8_since_33 (by decide) ?_
        refine va_zast hx hb hK hP hD hS 5 2 wMg5 rfl hq.1 dX8_since_34 (fun H locs hP hD hS => ?_)
        have hP := wMsP5 hP
        have hD := wMsD5 hD
        have hq := hq.2
        refine lv_iinc (v := (v2 + (1 : Int32))) (lv' := [(2, .int (v2 + (1 : Int32))), (0, .ref (ad 0)), (1, .int p1)]) hx hb dX8_since_35 hl (k := 2) rfl (by rfl) (by decide) rfl (fun ls hl => ?_)
        refine lv_goto (tgt := 6) hx hb dX8_since_38 (by decide) ?_
        rw [hK6] at hq
        exact hq _ _ _ hP hD hS (lv_sub hl [1, 2, 0] rfl)
      · have hq := hq.2 hc
        refine lv_iconst (v := (1 : Int32)) hx hb dX8_since_29 (by decide) ?_
        refine lv_goto (tgt := 34) hx hb dX8_since_30 (by decide) ?_
        refine va_zast hx hb hK hP hD hS 5 2 wMg5 rfl hq.1 dX8_since_34 (fun H locs hP hD hS => ?_)
        have hP := wMsP5 hP
        have hD := wMsD5 hD
        have hq := hq.2
        refine lv_iinc (v := (v2 + (1 : Int32))) (lv' := [(2, .int (v2 + (1 : Int32))), (0, .ref (ad 0)), (1, .int p1)]) hx hb dX8_since_35 hl (k := 2) rfl (by rfl) (by decide) rfl (fun ls hl => ?_)
        refine lv_goto (tgt := 6) hx hb dX8_since_38 (by decide) ?_
        rw [hK6] at hq
        exact hq _ _ _ hP hD hS (lv_sub hl [1, 2, 0] rfl)
  have hq := hwp K6 hk6
  refine lv_aload_n hx hb dX8_since_0 rfl (lv_at hl 0 rfl) ?_
  refine w_callv (va_runV (As := []) (rest := []) ⟨hx, hb, hml, hown, hts⟩ (mtX8_changed l D ad cA A σ  _ hq) (cwV 0 hts gX8_since_X8_changed rfl rfl rfl (by decide +kernel) ⟨Nat.le_of_ble_eq_true rfl, Nat.le_of_ble_eq_true rfl⟩) ⟨stW_blind nwM_ok, va_recv hK hP (ci := 8) (q0 := 0) rfl wMg0, stW_pass hA hS hN hK hP hD nwM_ok⟩ rfl rfl hl.1 rfl (lv_room (Nat.le_of_ble_eq_true rfl)) dX8_since_1 ⟨Nat.le_of_ble_eq_true rfl, Nat.le_of_ble_eq_true rfl⟩) hS (fun σ1 H locs hq hP hD hS => ?_)
  refine lv_iconst (v := (0 : Int32)) hx hb dX8_since_4 (by decide) ?_
  refine lv_istore_n (lv' := [(2, .int (0 : Int32)), (0, .ref (ad 0)), (1, .int p1)]) hx hb dX8_since_5 rfl hl (by decide) rfl (fun ls hl => ?_)
  rw [hK6] at hq
  exact hq _ _ _ hP hD hS (lv_sub hl [1, 2, 0] rfl)
/-! ArcGuesserModel.split(III)I -/
def X8_split_b35 (p1 : Int32) (p2 : Int32) (p3 : Int32) (K35 : Sto → Int32 → Prop) (Post : Int32 → Sto → Prop) (σ : Sto) (v4 : Int32) : Prop :=
  (((σ.1 0 7) ≤ v4 → (X8_hiddenOnes_wp σ  (fun r1 σ1 => (Post r1 σ1)))) ∧ (¬ (σ.1 0 7) ≤ v4 → (X8_draw_wp σ  (fun r2 σ2 => ((¬ p2 = 0) ∧ ((¬ (r2 - r2 / p2 * p2) = p3 → (vp_in v4 132 ∧ (K35 (sI σ2 5 (v4).toNatClampNeg (vp_nar .boolean (0 : Int32))) (v4 + (1 : Int32))))) ∧ ((r2 - r2 / p2 * p2) = p3 → (vp_in v4 132 ∧ (K35 (sI σ2 5 (v4).toNatClampNeg (vp_nar .boolean (1 : Int32))) (v4 + (1 : Int32)))))))))))
def X8_split_wp (σ : Sto) (p1 : Int32) (p2 : Int32) (p3 : Int32) (Post : Int32 → Sto → Prop) : Prop := ∀ (K35 : Sto → Int32 → Prop), (∀ (σ : Sto) (v4 : Int32), X8_split_b35 p1 p2 p3 K35 Post σ v4 → K35 σ v4) → 
  ((p2 < (1 : Int32) → (Post (-2 : Int32) σ)) ∧ (¬ p2 < (1 : Int32) → (((20 : Int32) < p2 → (Post (-2 : Int32) σ)) ∧ (¬ (20 : Int32) < p2 → ((p3 < 0 → (Post (-2 : Int32) σ)) ∧ (¬ p3 < 0 → ((p3 < p2 → (X8_changed_wp σ  (fun σ1 => (K35 (sI σ1 0 18 p1) (0 : Int32))))) ∧ (¬ p3 < p2 → (Post (-2 : Int32) σ)))))))))
set_option maxHeartbeats 4000000 in
set_option maxRecDepth 100000 in
theorem mtX8_split (l : Launch) (D : va_G) (ad : Nat → Nat) (cA : Nat → ClassId) (A : Nat → Prop) (σ : Sto) (p1 : Int32) (p2 : Int32) (p3 : Int32) (Post : Int32 → Sto → Prop) (hwp : X8_split_wp σ p1 p2 p3 Post) : Met l yX8_split wsX8_split ({ frames := 1, cells := 0, slots := 0, locals := 22 }) (va_Pc [.ref (ad 0), .int p1, .int p2, .int p3] (stW D (tyM cA) nwM (wM ad cA) A σ)) (va_Qi Post (enW D (wM ad cA) A) A) 0 0 A := by
  refine Met.ofW (cc := cX8_split) (maxL := 5) (ret := (some .int)) (by decide) rfl ?_
  intro p e s m args below meth c s₁ B hml hv
  obtain ⟨rfl, hA, hN, hP, hK, hD⟩ := hv
  have hx := B.exec
  have hb := B.bytes
  have hr := B.returns
  have hts := atoms_spec (ws := wsX8_split) B.pre
  have hown : s.vm.findClass RX8 = some m.cls := findClass_of_methodNamed B.named
  have hlocks := B.notSynchronized
  have hiX8 : ∀ w ∈ wsX80, w ∈ wsX8_split := by decide +kernel
  have hS : va_S A s.heap s.heap [] := va_S.rf
  have hl := lv_entry ([.ref (ad 0), .int p1, .int p2, .int p3]) (n := 5) (Nat.le_of_ble_eq_true rfl)
  rw [lg_entry_eq]
  generalize (lg_sl ([.ref (ad 0), .int p1, .int p2, .int p3]) ++ List.replicate (5 - (lg_sl ([.ref (ad 0), .int p1, .int p2, .int p3])).length) Slot.unset).toArray = ls at hl ⊢
  have hl : lv_has ls 5 [(0, .ref (ad 0)), (1, .int p1), (2, .int p2), (3, .int p3)] := hl
  obtain ⟨K35, hK35⟩ : ∃ K : Sto → Int32 → Prop, K = fun (σ : Sto) (v4 : Int32) => ∀ (H : Heap) (locs : List Loc) (ls : Array Slot), va_P D vwCl ((wM ad cA) σ) H → va_D A ((wM ad cA) σ) → va_S A s.heap H locs → lv_has ls 5 [(0, .ref (ad 0)), (2, .int p2), (3, .int p3), (4, .int v4)] → W p l e (headSpec wsX8_split ({ frames := 1, cells := 0, slots := 0, locals := 22 })).room s m ([.ref (ad 0), .int p1, .int p2, .int p3] : List Value).toArray below meth c H locs 0 0 (MQ below (va_Qi Post (enW D (wM ad cA) A) A) ([.ref (ad 0), .int p1, .int p2, .int p3] : List Value).toArray s 0 0 A) (F0 m 35 ls []) := ⟨_, rfl⟩
  have hk35 : ∀ (σ : Sto) (v4 : Int32), X8_split_b35 p1 p2 p3 K35 Post σ v4 → K35 σ v4 := by
    intro σ v4 hq
    rw [hK35]
    intro H locs ls hP hD hS hl
    unfold X8_split_b35 at hq
    refine lv_iload hx hb dX8_split_35 (lv_at hl 3 rfl) ?_
    refine lv_aload_n hx hb dX8_split_37 rfl (lv_at hl 0 rfl) ?_
    refine va_get (D := D) (ci := 8) (v := .int (σ.1 0 7)) (C := RX8) (T := TX8) (N := 32) hx hb hts hiX8 hown hK hP 0 wMg0 rfl 7 (by decide) (hts (.fieldLink RX8 92 "ArcGuesserModel" "arcs" "I") (List.mem_of_getElem? (i := 2) rfl)) (fun _ h9 => h9) rfl dX8_split_38 ?_
    refine lv_icmp_ge (tgt := 72) hx hb dX8_split_41 (by decide) (fun hc => ?_) (fun hc => ?_)
    · have hq := hq.1 hc
      refine lv_aload_n hx hb dX8_split_72 rfl (lv_at hl 0 rfl) ?_
      refine w_calli (va_runV (As := []) (rest := []) ⟨hx, hb, hml, hown, hts⟩ (mtX8_hiddenOnes l D ad cA A σ  _ hq) (cwV 0 hts gX8_split_X8_hiddenOnes rfl rfl rfl (by decide +kernel) ⟨Nat.le_of_ble_eq_true rfl, Nat.le_of_ble_eq_true rfl⟩) ⟨stW_blind nwM_ok, va_recv hK hP (ci := 8) (q0 := 0) rfl wMg0, stW_pass hA hS hN hK hP hD nwM_ok⟩ rfl rfl hl.1 rfl (lv_room (Nat.le_of_ble_eq_true rfl)) dX8_split_73 ⟨Nat.le_of_ble_eq_true rfl, Nat.le_of_ble_eq_true rfl⟩) hS (fun r1 σ1 H locs hq hP hD hS => ?_)
      exact W.iret (v := r1) hx hb hr (fun t ht hW => ⟨⟨r1, σ1, rfl, hq, by rw [ht]; exact hP, hD⟩, hS.F ht⟩) hS.2.2 dX8_split_76
    · have hq := hq.2 hc
      refine lv_aload_n hx hb dX8_split_44 rfl (lv_at hl 0 rfl) ?_
      refine va_get (D := D) (ci := 8) (v := .ref (ad 5)) (C := RX8) (T := TX8) (N := 32) hx hb hts hiX8 hown hK hP 0 wMg0 rfl 6 (by decide) (hts (.fieldLink RX8 26 "ArcGuesserModel" "hidden" "[Z") (List.mem_of_getElem? (i := 3) rfl)) (fun _ h9 => h9) rfl dX8_split_45 ?_
      refine lv_iload hx hb dX8_split_48 (lv_at hl 3 rfl) ?_
      refine lv_aload_n hx hb dX8_split_50 rfl (lv_at hl 0 rfl) ?_
      refine w_calli (va_runV (As := []) (rest := [.int v4, .ref (ad 5)]) ⟨hx, hb, hml, hown, hts⟩ (mtX8_draw l D ad cA A σ  _ hq) (cwV 0 hts gX8_split_X8_draw rfl rfl rfl (by decide +kernel) ⟨Nat.le_of_ble_eq_true rfl, Nat.le_of_ble_eq_true rfl⟩) ⟨stW_blind nwM_ok, va_recv hK hP (ci := 8) (q0 := 0) rfl wMg0, stW_pass hA hS hN hK hP hD nwM_ok⟩ rfl rfl hl.1 rfl (lv_room (Nat.le_of_ble_eq_true rfl)) dX8_split_51 ⟨Nat.le_of_ble_eq_true rfl, Nat.le_of_ble_eq_true rfl⟩) hS (fun r2 σ2 H locs hq hP hD hS => ?_)
      refine lv_iload_n hx hb dX8_split_54 rfl (lv_at hl 1 rfl) ?_
      refine lv_irem hx hb dX8_split_55 hq.1 ?_
      have hq := hq.2
      refine lv_iload_n hx hb dX8_split_56 rfl (lv_at hl 2 rfl) ?_
      refine lv_icmp_ne (tgt := 64) hx hb dX8_split_57 (by decide) (fun hc => ?_) (fun hc => ?_)
      · have hq := hq.1 hc
        refine lv_iconst (v := (0 : Int32)) hx hb dX8_split_64 (by decide) ?_
        refine va_zast hx hb hK hP hD hS 5 2 wMg5 rfl hq.1 dX8_split_65 (fun H locs hP hD hS => ?_)
        have hP := wMsP5 hP
        have hD := wMsD5 hD
        have hq := hq.2
        refine lv_iinc (v := (v4 + (1 : Int32))) (lv' := [(4, .int (v4 + (1 : Int32))), (0, .ref (ad 0)), (2, .int p2), (3, .int p3)]) hx hb dX8_split_66 hl (k := 3) rfl (by rfl) (by decide) rfl (fun ls hl => ?_)
        refine lv_goto (tgt := 35) hx hb dX8_split_69 (by decide) ?_
        rw [hK35] at hq
        exact hq _ _ _ hP hD hS (lv_sub hl [1, 2, 3, 0] rfl)
      · have hq := hq.2 hc
        refine lv_iconst (v := (1 : Int32)) hx hb dX8_split_60 (by decide) ?_
        refine lv_goto (tgt := 65) hx hb dX8_split_61 (by decide) ?_
        refine va_zast hx hb hK hP hD hS 5 2 wMg5 rfl hq.1 dX8_split_65 (fun H locs hP hD hS => ?_)
        have hP := wMsP5 hP
        have hD := wMsD5 hD
        have hq := hq.2
        refine lv_iinc (v := (v4 + (1 : Int32))) (lv' := [(4, .int (v4 + (1 : Int32))), (0, .ref (ad 0)), (2, .int p2), (3, .int p3)]) hx hb dX8_split_66 hl (k := 3) rfl (by rfl) (by decide) rfl (fun ls hl => ?_)
        refine lv_goto (tgt := 35) hx hb dX8_split_69 (by decide) ?_
        rw [hK35] at hq
        exact hq _ _ _ hP hD hS (lv_sub hl [1, 2, 3, 0] rfl)
  have hq := hwp K35 hk35
  refine lv_iload_n hx hb dX8_split_0 rfl (lv_at hl 2 rfl) ?_
  refine lv_iconst (v := (1 : Int32)) hx hb dX8_split_1 (by decide) ?_
  refine lv_icmp_lt (tgt := 20) hx hb dX8_split_2 (by decide) (fun hc => ?_) (fun hc => ?_)
  · have hq := hq.1 hc
    refine lv_bipush (v := (-2 : Int32)) hx hb dX8_split_20 (by decide) ?_
    exact W.iret (v := (-2 : Int32)) hx hb hr (fun t ht hW => ⟨⟨(-2 : Int32), σ, rfl, hq, by rw [ht]; exact hP, hD⟩, hS.F ht⟩) hS.2.2 dX8_split_22
  · have hq := hq.2 hc
    refine lv_iload_n hx hb dX8_split_5 rfl (lv_at hl 2 rfl) ?_
    refine lv_bipush (v := (20 : Int32)) hx hb dX8_split_6 (by decide) ?_
    refine lv_icmp_gt (tgt := 20) hx hb dX8_split_8 (by decide) (fun hc => ?_) (fun hc => ?_)
    · have hq := hq.1 hc
      refine lv_bipush (v := (-2 : Int32)) hx hb dX8_split_20 (by decide) ?_
      exact W.iret (v := (-2 : Int32)) hx hb hr (fun t ht hW => ⟨⟨(-2 : Int32), σ, rfl, hq, by rw [ht]; exact hP, hD⟩, hS.F ht⟩) hS.2.2 dX8_split_22
    · have hq := hq.2 hc
      refine lv_iload_n hx hb dX8_split_11 rfl (lv_at hl 3 rfl) ?_
      refine lv_if_lt (tgt := 20) hx hb dX8_split_12 (by decide) (fun hc => ?_) (fun hc => ?_)
      · have hq := hq.1 hc
        refine lv_bipush (v := (-2 : Int32)) hx hb dX8_split_20 (by decide) ?_
        exact W.iret (v := (-2 : Int32)) hx hb hr (fun t ht hW => ⟨⟨(-2 : Int32), σ, rfl, hq, by rw [ht]; exact hP, hD⟩, hS.F ht⟩) hS.2.2 dX8_split_22
      · have hq := hq.2 hc
        refine lv_iload_n hx hb dX8_split_15 rfl (lv_at hl 3 rfl) ?_
        refine lv_iload_n hx hb dX8_split_16 rfl (lv_at hl 2 rfl) ?_
        refine lv_icmp_lt (tgt := 23) hx hb dX8_split_17 (by decide) (fun hc => ?_) (fun hc => ?_)
        · have hq := hq.1 hc
          refine lv_aload_n hx hb dX8_split_23 rfl (lv_at hl 0 rfl) ?_
          refine w_callv (va_runV (As := []) (rest := []) ⟨hx, hb, hml, hown, hts⟩ (mtX8_changed l D ad cA A σ  _ hq) (cwV 0 hts gX8_split_X8_changed rfl rfl rfl (by decide +kernel) ⟨Nat.le_of_ble_eq_true rfl, Nat.le_of_ble_eq_true rfl⟩) ⟨stW_blind nwM_ok, va_recv hK hP (ci := 8) (q0 := 0) rfl wMg0, stW_pass hA hS hN hK hP hD nwM_ok⟩ rfl rfl hl.1 rfl (lv_room (Nat.le_of_ble_eq_true rfl)) dX8_split_24 ⟨Nat.le_of_ble_eq_true rfl, Nat.le_of_ble_eq_true rfl⟩) hS (fun σ1 H locs hq hP hD hS => ?_)
          refine lv_aload_n hx hb dX8_split_27 rfl (lv_at hl 0 rfl) ?_
          refine lv_iload_n hx hb dX8_split_28 rfl (lv_at hl 1 rfl) ?_
          refine va_put (D := D) (ci := 8) (v := .int p1) (ty := .int) (C := RX8) (T := TX8) (N := 32) hx hb hts hiX8 tyX8 tyX8_ok nmX8 hown hK hP hD hS 0 wMg0 rfl 18 (by decide) (hts (.fieldLink RX8 120 "ArcGuesserModel" "z" "I") (List.mem_of_getElem? (i := 1) rfl)) (fun _ h9 => h9) rfl (by decide +kernel) rfl rfl (Nat.le_of_ble_eq_true rfl) dX8_split_29 (fun H locs hP hD hS => ?_)
          have hP := wMfP0_18 hP
          have hD := wMfD0_18 hD
          refine lv_iconst (v := (0 : Int32)) hx hb dX8_split_32 (by decide) ?_
          refine lv_istore (lv' := [(4, .int (0 : Int32)), (0, .ref (ad 0)), (1, .int p1), (2, .int p2), (3, .int p3)]) hx hb dX8_split_33 hl (by decide) rfl (fun ls hl => ?_)
          rw [hK35] at hq
          exact hq _ _ _ hP hD hS (lv_sub hl [1, 3, 4, 0] rfl)
        · have hq := hq.2 hc
          refine lv_bipush (v := (-2 : Int32)) hx hb dX8_split_20 (by decide) ?_
          exact W.iret (v := (-2 : Int32)) hx hb hr (fun t ht hW => ⟨⟨(-2 : Int32), σ, rfl, hq, by rw [ht]; exact hP, hD⟩, hS.F ht⟩) hS.2.2 dX8_split_22
/-! ArcGuesserModel.top()J -/
def X8_top_wp (σ : Sto)  (Post : Int64 → Sto → Prop) : Prop :=
  (Post (σ.2 0 16) σ)
set_option maxHeartbeats 4000000 in
set_option maxRecDepth 100000 in
theorem mtX8_top (l : Launch) (D : va_G) (ad : Nat → Nat) (cA : Nat → ClassId) (A : Nat → Prop) (σ : Sto)  (Post : Int64 → Sto → Prop) (hwp : X8_top_wp σ  Post) : Met l yX8_top wsX8_top ({ frames := 0, cells := 0, slots := 0, locals := 0 }) (va_Pc [.ref (ad 0)] (stW D (tyM cA) nwM (wM ad cA) A σ)) (va_Ql Post (enW D (wM ad cA) A) A) 0 0 A := by
  refine Met.ofW (cc := cX8_top) (maxL := 1) (ret := (some .long)) (by decide) rfl ?_
  intro p e s m args below meth c s₁ B hml hv
  obtain ⟨rfl, hA, hN, hP, hK, hD⟩ := hv
  have hx := B.exec
  have hb := B.bytes
  have hr := B.returns
  have hts := atoms_spec (ws := wsX8_top) B.pre
  have hown : s.vm.findClass RX8 = some m.cls := findClass_of_methodNamed B.named
  have hlocks := B.notSynchronized
  have hiX8 : ∀ w ∈ wsX80, w ∈ wsX8_top := by decide +kernel
  have hS : va_S A s.heap s.heap [] := va_S.rf
  have hl := lv_entry ([.ref (ad 0)]) (n := 1) (Nat.le_of_ble_eq_true rfl)
  rw [lg_entry_eq]
  generalize (lg_sl ([.ref (ad 0)]) ++ List.replicate (1 - (lg_sl ([.ref (ad 0)])).length) Slot.unset).toArray = ls at hl ⊢
  have hl : lv_has ls 1 [(0, .ref (ad 0))] := hl
  have hq := hwp
  unfold X8_top_wp at hq
  refine lv_aload_n hx hb dX8_top_0 rfl (lv_at hl 0 rfl) ?_
  refine va_get (D := D) (ci := 8) (v := .long (σ.2 0 16)) (C := RX8) (T := TX8) (N := 32) hx hb hts hiX8 hown hK hP 0 wMg0 rfl 16 (by decide) (hts (.fieldLink RX8 95 "ArcGuesserModel" "boardTop" "J") (List.mem_of_getElem? (i := 1) rfl)) (fun _ h9 => h9) rfl dX8_top_1 ?_
  exact W.lret (v := (σ.2 0 16)) hx hb hr (fun t ht hW => ⟨⟨(σ.2 0 16), σ, rfl, hq, by rw [ht]; exact hP, hD⟩, hS.F ht⟩) hS.2.2 dX8_top_4
/-! ArcGuesserModel.weigh(II)I -/
def X8_weigh_wp (σ : Sto) (p1 : Int32) (p2 : Int32) (Post : Int32 → Sto → Prop) : Prop :=
  (X8_isMeasure_wp σ p1 (fun r1 σ1 => ((r1 = 0 → (Post (-2 : Int32) σ1)) ∧ (¬ r1 = 0 → ((p2 < (-99 : Int32) → (Post (-2 : Int32) σ1)) ∧ (¬ p2 < (-99 : Int32) → ((p2 ≤ (99 : Int32) → (vp_in p1 11 ∧ (vp_in p1 11 ∧ (Post ((σ1.1 7 (p1).toNatClampNeg) + (100 : Int32)) (sI σ1 7 (p1).toNatClampNeg p2))))) ∧ (¬ p2 ≤ (99 : Int32) → (Post (-2 : Int32) σ1)))))))))
set_option maxHeartbeats 4000000 in
set_option maxRecDepth 100000 in
theorem mtX8_weigh (l : Launch) (D : va_G) (ad : Nat → Nat) (cA : Nat → ClassId) (A : Nat → Prop) (σ : Sto) (p1 : Int32) (p2 : Int32) (Post : Int32 → Sto → Prop) (hwp : X8_weigh_wp σ p1 p2 Post) : Met l yX8_weigh wsX8_weigh ({ frames := 1, cells := 0, slots := 0, locals := 20 }) (va_Pc [.ref (ad 0), .int p1, .int p2] (stW D (tyM cA) nwM (wM ad cA) A σ)) (va_Qi Post (enW D (wM ad cA) A) A) 0 0 A := by
  refine Met.ofW (cc := cX8_weigh) (maxL := 4) (ret := (some .int)) (by decide) rfl ?_
  intro p e s m args below meth c s₁ B hml hv
  obtain ⟨rfl, hA, hN, hP, hK, hD⟩ := hv
  have hx := B.exec
  have hb := B.bytes
  have hr := B.returns
  have hts := atoms_spec (ws := wsX8_weigh) B.pre
  have hown : s.vm.findClass RX8 = some m.cls := findClass_of_methodNamed B.named
  have hlocks := B.notSynchronized
  have hiX8 : ∀ w ∈ wsX80, w ∈ wsX8_weigh := by decide +kernel
  have hS : va_S A s.heap s.heap [] := va_S.rf
  have hl := lv_entry ([.ref (ad 0), .int p1, .int p2]) (n := 4) (Nat.le_of_ble_eq_true rfl)
  rw [lg_entry_eq]
  generalize (lg_sl ([.ref (ad 0), .int p1, .int p2]) ++ List.replicate (4 - (lg_sl ([.ref (ad 0), .int p1, .int p2])).length) Slot.unset).toArray = ls at hl ⊢
  have hl : lv_has ls 4 [(0, .ref (ad 0)), (1, .int p1), (2, .int p2)] := hl
  have hq := hwp
  unfold X8_weigh_wp at hq
  refine lv_iload_n hx hb dX8_weigh_0 rfl (lv_at hl 1 rfl) ?_
  refine w_calli (va_runS (As := [.int p1]) (rest := []) ⟨hx, hb, hml, hown, hts⟩ (mtX8_isMeasure l D ad cA A σ p1 _ hq) (va_cwS 1 hts gX8_weigh_X8_isMeasure rfl rfl rfl (by decide +kernel) ⟨Nat.le_of_ble_eq_true rfl, Nat.le_of_ble_eq_true rfl⟩) ⟨stW_blind nwM_ok, stW_pass hA hS hN hK hP hD nwM_ok⟩ rfl rfl hl.1 rfl (lv_room (Nat.le_of_ble_eq_true rfl)) dX8_weigh_1 ⟨Nat.le_of_ble_eq_true rfl, Nat.le_of_ble_eq_true rfl⟩) hS (fun r1 σ1 H locs hq hP hD hS => ?_)
  refine lv_if_eq (tgt := 19) hx hb dX8_weigh_4 (by decide) (fun hc => ?_) (fun hc => ?_)
  · have hq := hq.1 hc
    refine lv_bipush (v := (-2 : Int32)) hx hb dX8_weigh_19 (by decide) ?_
    exact W.iret (v := (-2 : Int32)) hx hb hr (fun t ht hW => ⟨⟨(-2 : Int32), σ1, rfl, hq, by rw [ht]; exact hP, hD⟩, hS.F ht⟩) hS.2.2 dX8_weigh_21
  · have hq := hq.2 hc
    refine lv_iload_n hx hb dX8_weigh_7 rfl (lv_at hl 2 rfl) ?_
    refine lv_bipush (v := (-99 : Int32)) hx hb dX8_weigh_8 (by decide) ?_
    refine lv_icmp_lt (tgt := 19) hx hb dX8_weigh_10 (by decide) (fun hc => ?_) (fun hc => ?_)
    · have hq := hq.1 hc
      refine lv_bipush (v := (-2 : Int32)) hx hb dX8_weigh_19 (by decide) ?_
      exact W.iret (v := (-2 : Int32)) hx hb hr (fun t ht hW => ⟨⟨(-2 : Int32), σ1, rfl, hq, by rw [ht]; exact hP, hD⟩, hS.F ht⟩) hS.2.2 dX8_weigh_21
    · have hq := hq.2 hc
      refine lv_iload_n hx hb dX8_weigh_13 rfl (lv_at hl 2 rfl) ?_
      refine lv_bipush (v := (99 : Int32)) hx hb dX8_weigh_14 (by decide) ?_
      refine lv_icmp_le (tgt := 22) hx hb dX8_weigh_16 (by decide) (fun hc => ?_) (fun hc => ?_)
      · have hq := hq.1 hc
        refine lv_aload_n hx hb dX8_weigh_22 rfl (lv_at hl 0 rfl) ?_
        refine va_get (D := D) (ci := 8) (v := .ref (ad 7)) (C := RX8) (T := TX8) (N := 32) hx hb hts hiX8 hown hK hP 0 wMg0 rfl 9 (by decide) (hts (.fieldLink RX8 33 "ArcGuesserModel" "weights" "[I") (List.mem_of_getElem? (i := 1) rfl)) (fun _ h9 => h9) rfl dX8_weigh_23 ?_
        refine lv_iload_n hx hb dX8_weigh_26 rfl (lv_at hl 1 rfl) ?_
        refine va_iald hx hb hK hP 7 0 wMg7 rfl hq.1 dX8_weigh_27 ?_
        have hq := hq.2
        refine lv_bipush (v := (100 : Int32)) hx hb dX8_weigh_28 (by decide) ?_
        refine lv_iadd hx hb dX8_weigh_30 ?_
        refine lv_istore_n (lv' := [(3, .int ((σ1.1 7 (p1).toNatClampNeg) + (100 : Int32))), (0, .ref (ad 0)), (1, .int p1), (2, .int p2)]) hx hb dX8_weigh_31 rfl hl (by decide) rfl (fun ls hl => ?_)
        refine lv_aload_n hx hb dX8_weigh_32 rfl (lv_at hl 1 rfl) ?_
        refine va_get (D := D) (ci := 8) (v := .ref (ad 7)) (C := RX8) (T := TX8) (N := 32) hx hb hts hiX8 hown hK hP 0 wMg0 rfl 9 (by decide) (hts (.fieldLink RX8 33 "ArcGuesserModel" "weights" "[I") (List.mem_of_getElem? (i := 1) rfl)) (fun _ h9 => h9) rfl dX8_weigh_33 ?_
        refine lv_iload_n hx hb dX8_weigh_36 rfl (lv_at hl 2 rfl) ?_
        refine lv_iload_n hx hb dX8_weigh_37 rfl (lv_at hl 3 rfl) ?_
        refine va_iast hx hb hK hP hD hS 7 0 wMg7 rfl hq.1 dX8_weigh_38 (fun H locs hP hD hS => ?_)
        have hP := wMsP7 hP
        have hD := wMsD7 hD
        have hq := hq.2
        refine lv_iload_n hx hb dX8_weigh_39 rfl (lv_at hl 0 rfl) ?_
        exact W.iret (v := ((σ1.1 7 (p1).toNatClampNeg) + (100 : Int32))) hx hb hr (fun t ht hW => ⟨⟨((σ1.1 7 (p1).toNatClampNeg) + (100 : Int32)), (sI σ1 7 (p1).toNatClampNeg p2), rfl, hq, by rw [ht]; exact hP, hD⟩, hS.F ht⟩) hS.2.2 dX8_weigh_40
      · have hq := hq.2 hc
        refine lv_bipush (v := (-2 : Int32)) hx hb dX8_weigh_19 (by decide) ?_
        exact W.iret (v := (-2 : Int32)) hx hb hr (fun t ht hW => ⟨⟨(-2 : Int32), σ1, rfl, hq, by rw [ht]; exact hP, hD⟩, hS.F ht⟩) hS.2.2 dX8_weigh_21
/-! ArcGuesserModel.weight(I)I -/
def X8_weight_wp (σ : Sto) (p1 : Int32) (Post : Int32 → Sto → Prop) : Prop :=
  (X8_isMeasure_wp σ p1 (fun r1 σ1 => ((r1 = 0 → (Post (-2 : Int32) σ1)) ∧ (¬ r1 = 0 → (vp_in p1 11 ∧ (Post ((σ1.1 7 (p1).toNatClampNeg) + (100 : Int32)) σ1))))))
set_option maxHeartbeats 4000000 in
set_option maxRecDepth 100000 in
theorem mtX8_weight (l : Launch) (D : va_G) (ad : Nat → Nat) (cA : Nat → ClassId) (A : Nat → Prop) (σ : Sto) (p1 : Int32) (Post : Int32 → Sto → Prop) (hwp : X8_weight_wp σ p1 Post) : Met l yX8_weight wsX8_weight ({ frames := 1, cells := 0, slots := 0, locals := 20 }) (va_Pc [.ref (ad 0), .int p1] (stW D (tyM cA) nwM (wM ad cA) A σ)) (va_Qi Post (enW D (wM ad cA) A) A) 0 0 A := by
  refine Met.ofW (cc := cX8_weight) (maxL := 2) (ret := (some .int)) (by decide) rfl ?_
  intro p e s m args below meth c s₁ B hml hv
  obtain ⟨rfl, hA, hN, hP, hK, hD⟩ := hv
  have hx := B.exec
  have hb := B.bytes
  have hr := B.returns
  have hts := atoms_spec (ws := wsX8_weight) B.pre
  have hown : s.vm.findClass RX8 = some m.cls := findClass_of_methodNamed B.named
  have hlocks := B.notSynchronized
  have hiX8 : ∀ w ∈ wsX80, w ∈ wsX8_weight := by decide +kernel
  have hS : va_S A s.heap s.heap [] := va_S.rf
  have hl := lv_entry ([.ref (ad 0), .int p1]) (n := 2) (Nat.le_of_ble_eq_true rfl)
  rw [lg_entry_eq]
  generalize (lg_sl ([.ref (ad 0), .int p1]) ++ List.replicate (2 - (lg_sl ([.ref (ad 0), .int p1])).length) Slot.unset).toArray = ls at hl ⊢
  have hl : lv_has ls 2 [(0, .ref (ad 0)), (1, .int p1)] := hl
  have hq := hwp
  unfold X8_weight_wp at hq
  refine lv_iload_n hx hb dX8_weight_0 rfl (lv_at hl 1 rfl) ?_
  refine w_calli (va_runS (As := [.int p1]) (rest := []) ⟨hx, hb, hml, hown, hts⟩ (mtX8_isMeasure l D ad cA A σ p1 _ hq) (va_cwS 1 hts gX8_weight_X8_isMeasure rfl rfl rfl (by decide +kernel) ⟨Nat.le_of_ble_eq_true rfl, Nat.le_of_ble_eq_true rfl⟩) ⟨stW_blind nwM_ok, stW_pass hA hS hN hK hP hD nwM_ok⟩ rfl rfl hl.1 rfl (lv_room (Nat.le_of_ble_eq_true rfl)) dX8_weight_1 ⟨Nat.le_of_ble_eq_true rfl, Nat.le_of_ble_eq_true rfl⟩) hS (fun r1 σ1 H locs hq hP hD hS => ?_)
  refine lv_if_eq (tgt := 19) hx hb dX8_weight_4 (by decide) (fun hc => ?_) (fun hc => ?_)
  · have hq := hq.1 hc
    refine lv_bipush (v := (-2 : Int32)) hx hb dX8_weight_19 (by decide) ?_
    exact W.iret (v := (-2 : Int32)) hx hb hr (fun t ht hW => ⟨⟨(-2 : Int32), σ1, rfl, hq, by rw [ht]; exact hP, hD⟩, hS.F ht⟩) hS.2.2 dX8_weight_21
  · have hq := hq.2 hc
    refine lv_aload_n hx hb dX8_weight_7 rfl (lv_at hl 0 rfl) ?_
    refine va_get (D := D) (ci := 8) (v := .ref (ad 7)) (C := RX8) (T := TX8) (N := 32) hx hb hts hiX8 hown hK hP 0 wMg0 rfl 9 (by decide) (hts (.fieldLink RX8 33 "ArcGuesserModel" "weights" "[I") (List.mem_of_getElem? (i := 1) rfl)) (fun _ h9 => h9) rfl dX8_weight_8 ?_
    refine lv_iload_n hx hb dX8_weight_11 rfl (lv_at hl 1 rfl) ?_
    refine va_iald hx hb hK hP 7 0 wMg7 rfl hq.1 dX8_weight_12 ?_
    have hq := hq.2
    refine lv_bipush (v := (100 : Int32)) hx hb dX8_weight_13 (by decide) ?_
    refine lv_iadd hx hb dX8_weight_15 ?_
    refine lv_goto (tgt := 21) hx hb dX8_weight_16 (by decide) ?_
    exact W.iret (v := ((σ1.1 7 (p1).toNatClampNeg) + (100 : Int32))) hx hb hr (fun t ht hW => ⟨⟨((σ1.1 7 (p1).toNatClampNeg) + (100 : Int32)), σ1, rfl, hq, by rw [ht]; exact hP, hD⟩, hS.F ht⟩) hS.2.2 dX8_weight_21
